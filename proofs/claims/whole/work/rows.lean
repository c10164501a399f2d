section
def R_LT : String := "LinkTree"
def T_LT : u_T := fun k => match k with
  | 0 => ("LinkTree", "nodes", "[LLinkTree$Node;", true)
  | 1 => ("LinkTree", "nowhere", "LLinkTree$Node;", true)
  | 2 => ("LinkTree", "tasks", "[LLinkTree$Task;", true)
  | 3 => ("LinkTree", "small", "LLinkTree$SmallPages;", true)
  | _ => ("LinkTree", "rootPage", "I", false)
def ty_LT : Nat → FieldType := fun k => match k with
  | 0 => .array (.object "LinkTree$Node")
  | 1 => .object "LinkTree$Node"
  | 2 => .array (.object "LinkTree$Task")
  | 3 => .object "LinkTree$SmallPages"
  | _ => .int
theorem nm_LT : ∀ a, a < 5 → ∀ b, b < 5 → a ≠ b → (T_LT a).2.1 ≠ (T_LT b).2.1 := by decide +kernel
theorem ty_LT_ok : ∀ k, k < 5 → parseFieldDescriptor (T_LT k).2.2.1 = some (ty_LT k) := by decide +kernel
def R_ND : String := "LinkTree$Node"
def T_ND : u_T := fun k => match k with
  | 0 => ("LinkTree$Node", "number", "I", true)
  | 1 => ("LinkTree$Node", "keys", "[I", true)
  | 2 => ("LinkTree$Node", "seconds", "[I", true)
  | 3 => ("LinkTree$Node", "count", "I", false)
  | 4 => ("LinkTree$Node", "kind", "I", false)
  | 5 => ("LinkTree$Node", "level", "I", false)
  | 6 => ("LinkTree$Node", "low", "I", false)
  | 7 => ("LinkTree$Node", "high", "I", false)
  | 8 => ("LinkTree$Node", "right", "I", false)
  | 9 => ("LinkTree$Node", "locker", "I", false)
  | _ => ("LinkTree$Node", "awaited", "I", false)
def ty_ND : Nat → FieldType := fun k => match k with
  | 0 => .int
  | 1 => .array .int
  | 2 => .array .int
  | 3 => .int
  | 4 => .int
  | 5 => .int
  | 6 => .int
  | 7 => .int
  | 8 => .int
  | 9 => .int
  | _ => .int
theorem nm_ND : ∀ a, a < 11 → ∀ b, b < 11 → a ≠ b → (T_ND a).2.1 ≠ (T_ND b).2.1 := by decide +kernel
theorem ty_ND_ok : ∀ k, k < 11 → parseFieldDescriptor (T_ND k).2.2.1 = some (ty_ND k) := by decide +kernel
def R_TA : String := "LinkTree$Task"
def T_TA : u_T := fun k => match k with
  | 0 => ("LinkTree$Task", "number", "I", true)
  | 1 => ("LinkTree$Task", "path", "[I", true)
  | 2 => ("LinkTree$Task", "idle", "Z", false)
  | 3 => ("LinkTree$Task", "operation", "I", false)
  | 4 => ("LinkTree$Task", "phase", "I", false)
  | 5 => ("LinkTree$Task", "place", "I", false)
  | 6 => ("LinkTree$Task", "key", "I", false)
  | 7 => ("LinkTree$Task", "value", "I", false)
  | 8 => ("LinkTree$Task", "level", "I", false)
  | 9 => ("LinkTree$Task", "subject", "I", false)
  | 10 => ("LinkTree$Task", "hasAnswered", "Z", false)
  | 11 => ("LinkTree$Task", "latestAnswer", "I", false)
  | 12 => ("LinkTree$Task", "steps", "I", false)
  | 13 => ("LinkTree$Task", "blocks", "I", false)
  | 14 => ("LinkTree$Task", "rights", "I", false)
  | _ => ("LinkTree$Task", "restarts", "I", false)
def ty_TA : Nat → FieldType := fun k => match k with
  | 0 => .int
  | 1 => .array .int
  | 2 => .boolean
  | 3 => .int
  | 4 => .int
  | 5 => .int
  | 6 => .int
  | 7 => .int
  | 8 => .int
  | 9 => .int
  | 10 => .boolean
  | 11 => .int
  | 12 => .int
  | 13 => .int
  | 14 => .int
  | _ => .int
theorem nm_TA : ∀ a, a < 16 → ∀ b, b < 16 → a ≠ b → (T_TA a).2.1 ≠ (T_TA b).2.1 := by decide +kernel
theorem ty_TA_ok : ∀ k, k < 16 → parseFieldDescriptor (T_TA k).2.2.1 = some (ty_TA k) := by decide +kernel
def R_SP : String := "LinkTree$SmallPages"
def T_SP : u_T := fun k => match k with
  | 0 => ("LinkTree$SmallPages", "pages", "[I", true)
  | _ => ("LinkTree$SmallPages", "count", "I", false)
def ty_SP : Nat → FieldType := fun k => match k with
  | 0 => .array .int
  | _ => .int
theorem nm_SP : ∀ a, a < 2 → ∀ b, b < 2 → a ≠ b → (T_SP a).2.1 ≠ (T_SP b).2.1 := by decide +kernel
theorem ty_SP_ok : ∀ k, k < 2 → parseFieldDescriptor (T_SP k).2.2.1 = some (ty_SP k) := by decide +kernel
def R_MO : String := "LinkTreeModel"
def T_MO : u_T := fun k => match k with
  | 0 => ("LinkTreeModel", "thrown", "I", false)
  | 1 => ("LinkTreeModel", "kind", "[I", true)
  | 2 => ("LinkTreeModel", "level", "[I", true)
  | 3 => ("LinkTreeModel", "low", "[I", true)
  | 4 => ("LinkTreeModel", "high", "[I", true)
  | 5 => ("LinkTreeModel", "right", "[I", true)
  | 6 => ("LinkTreeModel", "count", "[I", true)
  | 7 => ("LinkTreeModel", "owner", "[I", true)
  | 8 => ("LinkTreeModel", "first", "[I", true)
  | 9 => ("LinkTreeModel", "second", "[I", true)
  | 10 => ("LinkTreeModel", "awaited", "[I", true)
  | 11 => ("LinkTreeModel", "root", "I", false)
  | 12 => ("LinkTreeModel", "queued", "I", false)
  | 13 => ("LinkTreeModel", "queue", "[I", true)
  | 14 => ("LinkTreeModel", "busy", "[Z", true)
  | 15 => ("LinkTreeModel", "operation", "[I", true)
  | 16 => ("LinkTreeModel", "phase", "[I", true)
  | 17 => ("LinkTreeModel", "place", "[I", true)
  | 18 => ("LinkTreeModel", "key", "[I", true)
  | 19 => ("LinkTreeModel", "want", "[I", true)
  | 20 => ("LinkTreeModel", "given", "[I", true)
  | 21 => ("LinkTreeModel", "about", "[I", true)
  | 22 => ("LinkTreeModel", "path", "[I", true)
  | 23 => ("LinkTreeModel", "answered", "[Z", true)
  | 24 => ("LinkTreeModel", "answers", "[I", true)
  | 25 => ("LinkTreeModel", "counts", "[I", true)
  | _ => ("LinkTreeModel", "open", "[I", true)
def ty_MO : Nat → FieldType := fun k => match k with
  | 0 => .int
  | 1 => .array .int
  | 2 => .array .int
  | 3 => .array .int
  | 4 => .array .int
  | 5 => .array .int
  | 6 => .array .int
  | 7 => .array .int
  | 8 => .array .int
  | 9 => .array .int
  | 10 => .array .int
  | 11 => .int
  | 12 => .int
  | 13 => .array .int
  | 14 => .array .boolean
  | 15 => .array .int
  | 16 => .array .int
  | 17 => .array .int
  | 18 => .array .int
  | 19 => .array .int
  | 20 => .array .int
  | 21 => .array .int
  | 22 => .array .int
  | 23 => .array .boolean
  | 24 => .array .int
  | 25 => .array .int
  | _ => .array .int
theorem nm_MO : ∀ a, a < 27 → ∀ b, b < 27 → a ≠ b → (T_MO a).2.1 ≠ (T_MO b).2.1 := by decide +kernel
theorem ty_MO_ok : ∀ k, k < 27 → parseFieldDescriptor (T_MO k).2.2.1 = some (ty_MO k) := by decide +kernel
def R_LW : String := "LinkTreeLaw"
abbrev b_LT_init : ByteArray := prog_1_method_1_code
def y_LT_init : MethodName := ⟨R_LT, "<init>", "()V"⟩
abbrev b_ND_init : ByteArray := prog_2_method_1_code
def y_ND_init : MethodName := ⟨R_ND, "<init>", "(I)V"⟩
abbrev b_TA_init : ByteArray := prog_4_method_1_code
def y_TA_init : MethodName := ⟨R_TA, "<init>", "(I)V"⟩
abbrev b_SP_init : ByteArray := prog_3_method_1_code
def y_SP_init : MethodName := ⟨R_SP, "<init>", "()V"⟩
abbrev b_ND_become : ByteArray := prog_2_method_2_code
def y_ND_become : MethodName := ⟨R_ND, "become", "(IIII)V"⟩
abbrev b_LT_root : ByteArray := prog_1_method_8_code
def y_LT_root : MethodName := ⟨R_LT, "root", "()I"⟩
abbrev b_LT_queued : ByteArray := prog_1_method_9_code
def y_LT_queued : MethodName := ⟨R_LT, "queued", "()I"⟩
abbrev b_LW_begin : ByteArray := method_3_code
def y_LW_begin : MethodName := ⟨R_LW, "begin", "(LLinkTree;IIII)I"⟩
abbrev b_LT_begin : ByteArray := prog_1_method_2_code
def y_LT_begin : MethodName := ⟨R_LT, "begin", "(IIII)V"⟩
abbrev b_LT_isTask : ByteArray := prog_1_method_11_code
def y_LT_isTask : MethodName := ⟨R_LT, "isTask", "(I)Z"⟩
abbrev b_TA_searchAnew : ByteArray := prog_4_method_2_code
def y_TA_searchAnew : MethodName := ⟨R_TA, "searchAnew", "(I)V"⟩
abbrev b_LT_chooseSmallPage : ByteArray := prog_1_method_15_code
def y_LT_chooseSmallPage : MethodName := ⟨R_LT, "chooseSmallPage", "(LLinkTree$Task;)V"⟩
abbrev b_SP_takeFirst : ByteArray := prog_3_method_3_code
def y_SP_takeFirst : MethodName := ⟨R_SP, "takeFirst", "()I"⟩
abbrev b_SP_drop : ByteArray := prog_3_method_4_code
def y_SP_drop : MethodName := ⟨R_SP, "drop", "(I)V"⟩
abbrev b_LT_nodeAt : ByteArray := prog_1_method_13_code
def y_LT_nodeAt : MethodName := ⟨R_LT, "nodeAt", "(I)LLinkTree$Node;"⟩
abbrev b_LT_isPage : ByteArray := prog_1_method_12_code
def y_LT_isPage : MethodName := ⟨R_LT, "isPage", "(I)Z"⟩
abbrev b_LW_step : ByteArray := method_4_code
def y_LW_step : MethodName := ⟨R_LW, "step", "(LLinkTree;I[J)I"⟩
abbrev b_LT_step : ByteArray := prog_1_method_3_code
def y_LT_step : MethodName := ⟨R_LT, "step", "(I)I"⟩
abbrev b_LT_advance : ByteArray := prog_1_method_16_code
def y_LT_advance : MethodName := ⟨R_LT, "advance", "(LLinkTree$Task;)I"⟩
abbrev b_LT_finish : ByteArray := prog_1_method_23_code
def y_LT_finish : MethodName := ⟨R_LT, "finish", "(LLinkTree$Task;I)I"⟩
abbrev b_ND_awaitNoMore : ByteArray := prog_2_method_17_code
def y_ND_awaitNoMore : MethodName := ⟨R_ND, "awaitNoMore", "(I)V"⟩
abbrev b_ND_dieUntil : ByteArray := prog_2_method_16_code
def y_ND_dieUntil : MethodName := ⟨R_ND, "dieUntil", "(I)V"⟩
abbrev b_LT_search : ByteArray := prog_1_method_17_code
def y_LT_search : MethodName := ⟨R_LT, "search", "(LLinkTree$Task;LLinkTree$Node;)I"⟩
abbrev b_ND_isWrongFor : ByteArray := prog_2_method_3_code
def y_ND_isWrongFor : MethodName := ⟨R_ND, "isWrongFor", "(I)Z"⟩
abbrev b_LT_restart : ByteArray := prog_1_method_21_code
def y_LT_restart : MethodName := ⟨R_LT, "restart", "(LLinkTree$Task;)I"⟩
abbrev b_LT_goRight : ByteArray := prog_1_method_22_code
def y_LT_goRight : MethodName := ⟨R_LT, "goRight", "(LLinkTree$Task;LLinkTree$Node;)I"⟩
abbrev b_TA_note : ByteArray := prog_4_method_3_code
def y_TA_note : MethodName := ⟨R_TA, "note", "(II)V"⟩
abbrev b_ND_childFor : ByteArray := prog_2_method_7_code
def y_ND_childFor : MethodName := ⟨R_ND, "childFor", "(I)I"⟩
abbrev b_ND_firstNotBelow : ByteArray := prog_2_method_4_code
def y_ND_firstNotBelow : MethodName := ⟨R_ND, "firstNotBelow", "(I)I"⟩
abbrev b_LT_searchBelowWanted : ByteArray := prog_1_method_18_code
def y_LT_searchBelowWanted : MethodName := ⟨R_LT, "searchBelowWanted", "(LLinkTree$Task;)I"⟩
abbrev b_LT_leastFreeNode : ByteArray := prog_1_method_31_code
def y_LT_leastFreeNode : MethodName := ⟨R_LT, "leastFreeNode", "()LLinkTree$Node;"⟩
abbrev b_ND_insert : ByteArray := prog_2_method_9_code
def y_ND_insert : MethodName := ⟨R_ND, "insert", "(III)V"⟩
abbrev b_ND_valueOf : ByteArray := prog_2_method_6_code
def y_ND_valueOf : MethodName := ⟨R_ND, "valueOf", "(I)I"⟩
abbrev b_ND_hasKeyAt : ByteArray := prog_2_method_5_code
def y_ND_hasKeyAt : MethodName := ⟨R_ND, "hasKeyAt", "(II)Z"⟩
abbrev b_LT_lock : ByteArray := prog_1_method_19_code
def y_LT_lock : MethodName := ⟨R_LT, "lock", "(LLinkTree$Task;LLinkTree$Node;)I"⟩
abbrev b_LT_hold : ByteArray := prog_1_method_20_code
def y_LT_hold : MethodName := ⟨R_LT, "hold", "(LLinkTree$Task;LLinkTree$Node;)I"⟩
abbrev b_LT_put : ByteArray := prog_1_method_24_code
def y_LT_put : MethodName := ⟨R_LT, "put", "(LLinkTree$Task;LLinkTree$Node;)I"⟩
abbrev b_LT_split : ByteArray := prog_1_method_26_code
def y_LT_split : MethodName := ⟨R_LT, "split", "(LLinkTree$Task;LLinkTree$Node;LLinkTree$Node;)V"⟩
abbrev b_TA_notedAt : ByteArray := prog_4_method_4_code
def y_TA_notedAt : MethodName := ⟨R_TA, "notedAt", "(I)I"⟩
abbrev b_LT_remove : ByteArray := prog_1_method_27_code
def y_LT_remove : MethodName := ⟨R_LT, "remove", "(LLinkTree$Task;LLinkTree$Node;)I"⟩
abbrev b_ND_delete : ByteArray := prog_2_method_10_code
def y_ND_delete : MethodName := ⟨R_ND, "delete", "(I)V"⟩
abbrev b_SP_add : ByteArray := prog_3_method_2_code
def y_SP_add : MethodName := ⟨R_SP, "add", "(I)V"⟩
abbrev b_SP_has : ByteArray := prog_3_method_5_code
def y_SP_has : MethodName := ⟨R_SP, "has", "(I)Z"⟩
abbrev b_LT_join : ByteArray := prog_1_method_28_code
def y_LT_join : MethodName := ⟨R_LT, "join", "(LLinkTree$Task;LLinkTree$Node;)I"⟩
abbrev b_ND_entryOfChild : ByteArray := prog_2_method_8_code
def y_ND_entryOfChild : MethodName := ⟨R_ND, "entryOfChild", "(I)I"⟩
abbrev b_ND_takeAllOf : ByteArray := prog_2_method_12_code
def y_ND_takeAllOf : MethodName := ⟨R_ND, "takeAllOf", "(LLinkTree$Node;)V"⟩
abbrev b_ND_moveFirstOf : ByteArray := prog_2_method_14_code
def y_ND_moveFirstOf : MethodName := ⟨R_ND, "moveFirstOf", "(LLinkTree$Node;I)V"⟩
abbrev b_LT_die : ByteArray := prog_1_method_30_code
def y_LT_die : MethodName := ⟨R_LT, "die", "(LLinkTree$Node;LLinkTree$Task;)V"⟩
abbrev b_ND_shareWith : ByteArray := prog_2_method_13_code
def y_ND_shareWith : MethodName := ⟨R_ND, "shareWith", "(LLinkTree$Node;)V"⟩
abbrev b_ND_moveLastTo : ByteArray := prog_2_method_15_code
def y_ND_moveLastTo : MethodName := ⟨R_ND, "moveLastTo", "(LLinkTree$Node;I)V"⟩
abbrev b_LT_lowerOrQueue : ByteArray := prog_1_method_29_code
def y_LT_lowerOrQueue : MethodName := ⟨R_LT, "lowerOrQueue", "(LLinkTree$Node;LLinkTree$Task;)V"⟩
abbrev b_LT_post : ByteArray := prog_1_method_25_code
def y_LT_post : MethodName := ⟨R_LT, "post", "(LLinkTree$Task;LLinkTree$Node;)I"⟩
abbrev b_ND_divideEntry : ByteArray := prog_2_method_11_code
def y_ND_divideEntry : MethodName := ⟨R_ND, "divideEntry", "(II)V"⟩
abbrev b_LW_answer : ByteArray := method_5_code
def y_LW_answer : MethodName := ⟨R_LW, "answer", "(LLinkTree;I[J)I"⟩
abbrev b_LT_answer : ByteArray := prog_1_method_4_code
def y_LT_answer : MethodName := ⟨R_LT, "answer", "(I)I"⟩
abbrev b_LW_look : ByteArray := method_6_code
def y_LW_look : MethodName := ⟨R_LW, "look", "(LLinkTree;II[J)I"⟩
abbrev b_LT_look : ByteArray := prog_1_method_5_code
def y_LT_look : MethodName := ⟨R_LT, "look", "(II)I"⟩
abbrev b_LW_page : ByteArray := method_7_code
def y_LW_page : MethodName := ⟨R_LW, "page", "(LLinkTree;II[J)I"⟩
abbrev b_LT_page : ByteArray := prog_1_method_6_code
def y_LT_page : MethodName := ⟨R_LT, "page", "(II)I"⟩
abbrev b_LW_entry : ByteArray := method_8_code
def y_LW_entry : MethodName := ⟨R_LW, "entry", "(LLinkTree;IIZ[J)I"⟩
abbrev b_LT_entry : ByteArray := prog_1_method_7_code
def y_LT_entry : MethodName := ⟨R_LT, "entry", "(IIZ)I"⟩
abbrev b_LW_under : ByteArray := method_9_code
def y_LW_under : MethodName := ⟨R_LW, "under", "(LLinkTree;I[J)I"⟩
abbrev b_LT_under : ByteArray := prog_1_method_10_code
def y_LT_under : MethodName := ⟨R_LT, "under", "(I)I"⟩
abbrev b_LT_leafEntries : ByteArray := prog_1_method_14_code
def y_LT_leafEntries : MethodName := ⟨R_LT, "leafEntries", "(LLinkTree$Node;I)I"⟩
abbrev b_MO_init : ByteArray := prog_6_method_1_code
def y_MO_init : MethodName := ⟨R_MO, "<init>", "()V"⟩
abbrev b_MO_thrown : ByteArray := prog_6_method_2_code
def y_MO_thrown : MethodName := ⟨R_MO, "thrown", "()I"⟩
abbrev b_MO_begin : ByteArray := prog_6_method_21_code
def y_MO_begin : MethodName := ⟨R_MO, "begin", "(IIII)V"⟩
abbrev b_MO_isTask : ByteArray := prog_6_method_16_code
def y_MO_isTask : MethodName := ⟨R_MO, "isTask", "(I)Z"⟩
abbrev b_MO_within : ByteArray := prog_6_method_3_code
def y_MO_within : MethodName := ⟨R_MO, "within", "(III)Z"⟩
abbrev b_MO_fails : ByteArray := prog_6_method_4_code
def y_MO_fails : MethodName := ⟨R_MO, "fails", "(ZI)Z"⟩
abbrev b_MO_forgetPath : ByteArray := prog_6_method_18_code
def y_MO_forgetPath : MethodName := ⟨R_MO, "forgetPath", "(I)V"⟩
abbrev b_MO_search : ByteArray := prog_6_method_17_code
def y_MO_search : MethodName := ⟨R_MO, "search", "(II)V"⟩
abbrev b_MO_beginJoin : ByteArray := prog_6_method_22_code
def y_MO_beginJoin : MethodName := ⟨R_MO, "beginJoin", "(I)V"⟩
abbrev b_MO_leaveQueue : ByteArray := prog_6_method_13_code
def y_MO_leaveQueue : MethodName := ⟨R_MO, "leaveQueue", "(I)V"⟩
abbrev b_MO_step : ByteArray := prog_6_method_29_code
def y_MO_step : MethodName := ⟨R_MO, "step", "(I)I"⟩
abbrev b_MO_searches : ByteArray := prog_6_method_25_code
def y_MO_searches : MethodName := ⟨R_MO, "searches", "(I)I"⟩
abbrev b_MO_finish : ByteArray := prog_6_method_20_code
def y_MO_finish : MethodName := ⟨R_MO, "finish", "(II)I"⟩
abbrev b_MO_release : ByteArray := prog_6_method_15_code
def y_MO_release : MethodName := ⟨R_MO, "release", "(I)V"⟩
abbrev b_MO_isLost : ByteArray := prog_6_method_23_code
def y_MO_isLost : MethodName := ⟨R_MO, "isLost", "(I)Z"⟩
abbrev b_MO_restart : ByteArray := prog_6_method_19_code
def y_MO_restart : MethodName := ⟨R_MO, "restart", "(I)I"⟩
abbrev b_MO_goRight : ByteArray := prog_6_method_24_code
def y_MO_goRight : MethodName := ⟨R_MO, "goRight", "(I)V"⟩
abbrev b_MO_from : ByteArray := prog_6_method_10_code
def y_MO_from : MethodName := ⟨R_MO, "from", "(II)I"⟩
abbrev b_MO_rises : ByteArray := prog_6_method_26_code
def y_MO_rises : MethodName := ⟨R_MO, "rises", "(I)I"⟩
abbrev b_MO_freePage : ByteArray := prog_6_method_5_code
def y_MO_freePage : MethodName := ⟨R_MO, "freePage", "()I"⟩
abbrev b_MO_make : ByteArray := prog_6_method_6_code
def y_MO_make : MethodName := ⟨R_MO, "make", "(IIIII)V"⟩
abbrev b_MO_append : ByteArray := prog_6_method_7_code
def y_MO_append : MethodName := ⟨R_MO, "append", "(III)V"⟩
abbrev b_MO_has : ByteArray := prog_6_method_11_code
def y_MO_has : MethodName := ⟨R_MO, "has", "(II)Z"⟩
abbrev b_MO_locks : ByteArray := prog_6_method_27_code
def y_MO_locks : MethodName := ⟨R_MO, "locks", "(I)I"⟩
abbrev b_MO_holds : ByteArray := prog_6_method_28_code
def y_MO_holds : MethodName := ⟨R_MO, "holds", "(I)I"⟩
abbrev b_MO_puts : ByteArray := prog_6_method_30_code
def y_MO_puts : MethodName := ⟨R_MO, "puts", "(II)I"⟩
abbrev b_MO_insert : ByteArray := prog_6_method_8_code
def y_MO_insert : MethodName := ⟨R_MO, "insert", "(IIII)V"⟩
abbrev b_MO_split : ByteArray := prog_6_method_31_code
def y_MO_split : MethodName := ⟨R_MO, "split", "(II)V"⟩
abbrev b_MO_posts : ByteArray := prog_6_method_32_code
def y_MO_posts : MethodName := ⟨R_MO, "posts", "(II)I"⟩
abbrev b_MO_removes : ByteArray := prog_6_method_33_code
def y_MO_removes : MethodName := ⟨R_MO, "removes", "(II)I"⟩
abbrev b_MO_takeOut : ByteArray := prog_6_method_9_code
def y_MO_takeOut : MethodName := ⟨R_MO, "takeOut", "(II)V"⟩
abbrev b_MO_comeIntoQueue : ByteArray := prog_6_method_12_code
def y_MO_comeIntoQueue : MethodName := ⟨R_MO, "comeIntoQueue", "(I)V"⟩
abbrev b_MO_joins : ByteArray := prog_6_method_35_code
def y_MO_joins : MethodName := ⟨R_MO, "joins", "(II)I"⟩
abbrev b_MO_childOf : ByteArray := prog_6_method_34_code
def y_MO_childOf : MethodName := ⟨R_MO, "childOf", "(II)I"⟩
abbrev b_MO_balance : ByteArray := prog_6_method_36_code
def y_MO_balance : MethodName := ⟨R_MO, "balance", "(II)V"⟩
abbrev b_MO_die : ByteArray := prog_6_method_14_code
def y_MO_die : MethodName := ⟨R_MO, "die", "(II)V"⟩
abbrev b_MO_shrinks : ByteArray := prog_6_method_37_code
def y_MO_shrinks : MethodName := ⟨R_MO, "shrinks", "(II)V"⟩
abbrev b_MO_answer : ByteArray := prog_6_method_38_code
def y_MO_answer : MethodName := ⟨R_MO, "answer", "(I)I"⟩
abbrev b_MO_look : ByteArray := prog_6_method_39_code
def y_MO_look : MethodName := ⟨R_MO, "look", "(II)I"⟩
abbrev b_MO_page : ByteArray := prog_6_method_40_code
def y_MO_page : MethodName := ⟨R_MO, "page", "(II)I"⟩
abbrev b_MO_entry : ByteArray := prog_6_method_42_code
def y_MO_entry : MethodName := ⟨R_MO, "entry", "(IIZ)I"⟩
abbrev b_MO_isNode : ByteArray := prog_6_method_41_code
def y_MO_isNode : MethodName := ⟨R_MO, "isNode", "(I)Z"⟩
abbrev b_MO_root : ByteArray := prog_6_method_43_code
def y_MO_root : MethodName := ⟨R_MO, "root", "()I"⟩
abbrev b_MO_queued : ByteArray := prog_6_method_44_code
def y_MO_queued : MethodName := ⟨R_MO, "queued", "()I"⟩
abbrev b_MO_under : ByteArray := prog_6_method_45_code
def y_MO_under : MethodName := ⟨R_MO, "under", "(I)I"⟩
abbrev b_LW_law : ByteArray := code
def y_LW_law : MethodName := ⟨R_LW, "law", "([I)Z"⟩
def lk_G0 : List Cond := [.initialized R_LW, .initialized R_LT, .initialized R_ND, .initialized R_TA, .initialized R_SP, .initialized R_MO, .initialized "java/lang/Throwable", .initialized "java/lang/Exception", .initialized "java/lang/RuntimeException", .initialized "java/lang/IllegalArgumentException", .initialized "java/lang/IllegalStateException", .initialized "java/util/NoSuchElementException", .classLink R_LW 8 R_LT, .instantiable R_LT 5, .methodLink R_LW 40 y_LT_init, .instanceMethod y_LT_init, .code y_LT_init b_LT_init 2 none, .methodLink R_LT 3 objectInit, .instanceMethod objectInit, .code objectInit ⟨#[0xb1]⟩ 1 none, .classLink R_LT 9 R_ND, .instantiable R_ND 11, .methodLink R_LT 15 y_ND_init, .instanceMethod y_ND_init, .code y_ND_init b_ND_init 2 none, .methodLink R_ND 3 objectInit, .fieldLink R_ND 28 "LinkTree$Node" "number" "I", .fieldLink R_LT 198 "LinkTree$Node" "number" "I", .fieldLink R_ND 9 "LinkTree$Node" "keys" "[I", .fieldLink R_LT 158 "LinkTree$Node" "keys" "[I", .fieldLink R_ND 15 "LinkTree$Node" "seconds" "[I", .fieldLink R_LT 154 "LinkTree$Node" "seconds" "[I", .fieldLink R_ND 40 "LinkTree$Node" "count" "I", .fieldLink R_LT 142 "LinkTree$Node" "count" "I", .fieldLink R_ND 18 "LinkTree$Node" "kind" "I", .fieldLink R_LT 22 "LinkTree$Node" "kind" "I", .fieldLink R_ND 31 "LinkTree$Node" "level" "I", .fieldLink R_LT 132 "LinkTree$Node" "level" "I", .fieldLink R_ND 34 "LinkTree$Node" "low" "I", .fieldLink R_LT 133 "LinkTree$Node" "low" "I"]
def lk_G1 : List Cond := [.fieldLink R_ND 37 "LinkTree$Node" "high" "I", .fieldLink R_LT 136 "LinkTree$Node" "high" "I", .fieldLink R_ND 22 "LinkTree$Node" "right" "I", .fieldLink R_LT 139 "LinkTree$Node" "right" "I", .fieldLink R_ND 25 "LinkTree$Node" "locker" "I", .fieldLink R_LT 145 "LinkTree$Node" "locker" "I", .fieldLink R_ND 66 "LinkTree$Node" "awaited" "I", .arrayClass .int, .classLink R_LT 26 R_TA, .instantiable R_TA 16, .methodLink R_LT 32 y_TA_init, .instanceMethod y_TA_init, .code y_TA_init b_TA_init 2 none, .methodLink R_TA 3 objectInit, .fieldLink R_TA 19 "LinkTree$Task" "number" "I", .fieldLink R_LT 223 "LinkTree$Task" "number" "I", .fieldLink R_TA 9 "LinkTree$Task" "path" "[I", .fieldLink R_TA 15 "LinkTree$Task" "idle" "Z", .fieldLink R_LT 60 "LinkTree$Task" "idle" "Z", .fieldLink R_LT 69 "LinkTree$Task" "operation" "I", .fieldLink R_TA 23 "LinkTree$Task" "phase" "I", .fieldLink R_LT 115 "LinkTree$Task" "phase" "I", .fieldLink R_TA 26 "LinkTree$Task" "place" "I", .fieldLink R_LT 118 "LinkTree$Task" "place" "I", .fieldLink R_LT 72 "LinkTree$Task" "key" "I", .fieldLink R_LT 75 "LinkTree$Task" "value" "I", .fieldLink R_LT 78 "LinkTree$Task" "level" "I", .fieldLink R_LT 172 "LinkTree$Task" "subject" "I", .fieldLink R_LT 102 "LinkTree$Task" "hasAnswered" "Z", .fieldLink R_LT 110 "LinkTree$Task" "latestAnswer" "I", .fieldLink R_LT 96 "LinkTree$Task" "steps" "I", .fieldLink R_LT 99 "LinkTree$Task" "blocks" "I", .fieldLink R_LT 121 "LinkTree$Task" "rights" "I", .fieldLink R_LT 124 "LinkTree$Task" "restarts" "I", .classLink R_LT 33 R_SP, .instantiable R_SP 2, .instanceMethod y_SP_init, .code y_SP_init b_SP_init 1 none, .methodLink R_SP 3 objectInit, .fieldLink R_SP 9 "LinkTree$SmallPages" "pages" "[I"]
def lk_G2 : List Cond := [.fieldLink R_SP 15 "LinkTree$SmallPages" "count" "I", .fieldLink R_LT 161 "LinkTree$SmallPages" "count" "I", .methodLink R_LT 43 y_ND_become, .instanceMethod y_ND_become, .selects R_ND y_ND_become y_ND_become, .code y_ND_become b_ND_become 5 none, .fieldLink R_LT 11 "LinkTree" "nodes" "[LLinkTree$Node;", .fieldLink R_LT 18 "LinkTree" "nowhere" "LLinkTree$Node;", .fieldLink R_LT 28 "LinkTree" "tasks" "[LLinkTree$Task;", .fieldLink R_LT 36 "LinkTree" "small" "LLinkTree$SmallPages;", .fieldLink R_LT 40 "LinkTree" "rootPage" "I", .methodLink R_LW 72 y_LT_root, .instanceMethod y_LT_root, .selects R_LT y_LT_root y_LT_root, .code y_LT_root b_LT_root 1 (some (.int)), .methodLink R_LW 76 y_LT_queued, .instanceMethod y_LT_queued, .selects R_LT y_LT_queued y_LT_queued, .code y_LT_queued b_LT_queued 1 (some (.int)), .methodLink R_LW 44 y_LW_begin, .static y_LW_begin, .classLink R_LW 13 "java/lang/IllegalArgumentException", .classLink R_LW 15 "java/lang/IllegalStateException", .methodLink R_LW 7 y_LT_begin, .instanceMethod y_LT_begin, .selects R_LT y_LT_begin y_LT_begin, .code y_LT_begin b_LT_begin 6 none, .methodLink R_LT 47 y_LT_isTask, .static y_LT_isTask, .code y_LT_isTask b_LT_isTask 1 (some (.boolean)), .classLink R_LT 51 "java/lang/IllegalArgumentException", .arrayClass .byte, .classLink R_LT 64 "java/lang/IllegalStateException", .methodLink R_LT 81 y_TA_searchAnew, .instanceMethod y_TA_searchAnew, .selects R_TA y_TA_searchAnew y_TA_searchAnew, .code y_TA_searchAnew b_TA_searchAnew 3 none, .methodLink R_LT 84 y_LT_chooseSmallPage, .instanceMethod y_LT_chooseSmallPage, .code y_LT_chooseSmallPage b_LT_chooseSmallPage 4 none]
def lk_G3 : List Cond := [.methodLink R_LT 168 y_SP_takeFirst, .instanceMethod y_SP_takeFirst, .selects R_SP y_SP_takeFirst y_SP_takeFirst, .code y_SP_takeFirst b_SP_takeFirst 2 (some (.int)), .methodLink R_SP 23 y_SP_drop, .instanceMethod y_SP_drop, .selects R_SP y_SP_drop y_SP_drop, .code y_SP_drop b_SP_drop 4 none, .methodLink R_LT 148 y_LT_nodeAt, .instanceMethod y_LT_nodeAt, .code y_LT_nodeAt b_LT_nodeAt 2 (some (.object "LinkTree$Node")), .methodLink R_LT 127 y_LT_isPage, .static y_LT_isPage, .code y_LT_isPage b_LT_isPage 1 (some (.boolean)), .methodLink R_LW 54 y_LW_step, .static y_LW_step, .methodLink R_LW 17 y_LT_step, .instanceMethod y_LT_step, .selects R_LT y_LT_step y_LT_step, .code y_LT_step b_LT_step 4 (some (.int)), .methodLink R_LT 92 y_LT_advance, .instanceMethod y_LT_advance, .code y_LT_advance b_LT_advance 3 (some (.int)), .methodLink R_LT 175 y_LT_finish, .instanceMethod y_LT_finish, .code y_LT_finish b_LT_finish 4 (some (.int)), .methodLink R_LT 236 y_ND_awaitNoMore, .instanceMethod y_ND_awaitNoMore, .selects R_ND y_ND_awaitNoMore y_ND_awaitNoMore, .code y_ND_awaitNoMore b_ND_awaitNoMore 2 none, .methodLink R_ND 69 y_ND_dieUntil, .instanceMethod y_ND_dieUntil, .selects R_ND y_ND_dieUntil y_ND_dieUntil, .code y_ND_dieUntil b_ND_dieUntil 2 none, .methodLink R_LT 179 y_LT_search, .instanceMethod y_LT_search, .code y_LT_search b_LT_search 3 (some (.int)), .methodLink R_LT 189 y_ND_isWrongFor, .instanceMethod y_ND_isWrongFor, .selects R_ND y_ND_isWrongFor y_ND_isWrongFor]
def lk_G4 : List Cond := [.code y_ND_isWrongFor b_ND_isWrongFor 2 (some (.boolean)), .methodLink R_LT 192 y_LT_restart, .instanceMethod y_LT_restart, .code y_LT_restart b_LT_restart 2 (some (.int)), .methodLink R_LT 195 y_LT_goRight, .instanceMethod y_LT_goRight, .code y_LT_goRight b_LT_goRight 3 (some (.int)), .methodLink R_LT 201 y_TA_note, .instanceMethod y_TA_note, .selects R_TA y_TA_note y_TA_note, .code y_TA_note b_TA_note 3 none, .methodLink R_LT 205 y_ND_childFor, .instanceMethod y_ND_childFor, .selects R_ND y_ND_childFor y_ND_childFor, .code y_ND_childFor b_ND_childFor 3 (some (.int)), .methodLink R_ND 43 y_ND_firstNotBelow, .instanceMethod y_ND_firstNotBelow, .selects R_ND y_ND_firstNotBelow y_ND_firstNotBelow, .code y_ND_firstNotBelow b_ND_firstNotBelow 3 (some (.int)), .methodLink R_LT 209 y_LT_searchBelowWanted, .instanceMethod y_LT_searchBelowWanted, .code y_LT_searchBelowWanted b_LT_searchBelowWanted 4 (some (.int)), .methodLink R_LT 215 y_LT_leastFreeNode, .instanceMethod y_LT_leastFreeNode, .code y_LT_leastFreeNode b_LT_leastFreeNode 2 (some (.object "LinkTree$Node")), .methodLink R_LT 219 y_ND_insert, .instanceMethod y_ND_insert, .selects R_ND y_ND_insert y_ND_insert, .code y_ND_insert b_ND_insert 5 none, .methodLink R_LT 212 y_ND_valueOf, .instanceMethod y_ND_valueOf, .selects R_ND y_ND_valueOf y_ND_valueOf, .code y_ND_valueOf b_ND_valueOf 3 (some (.int)), .methodLink R_ND 47 y_ND_hasKeyAt, .instanceMethod y_ND_hasKeyAt, .selects R_ND y_ND_hasKeyAt y_ND_hasKeyAt, .code y_ND_hasKeyAt b_ND_hasKeyAt 3 (some (.boolean)), .methodLink R_LT 183 y_LT_lock, .instanceMethod y_LT_lock, .code y_LT_lock b_LT_lock 3 (some (.int))]
def lk_G5 : List Cond := [.methodLink R_LT 186 y_LT_hold, .instanceMethod y_LT_hold, .code y_LT_hold b_LT_hold 4 (some (.int)), .methodLink R_LT 224 y_LT_put, .instanceMethod y_LT_put, .code y_LT_put b_LT_put 5 (some (.int)), .methodLink R_LT 239 y_ND_firstNotBelow, .methodLink R_LT 242 y_ND_hasKeyAt, .methodLink R_LT 246 y_LT_split, .instanceMethod y_LT_split, .code y_LT_split b_LT_split 6 none, .methodLink R_LT 253 y_TA_notedAt, .instanceMethod y_TA_notedAt, .selects R_TA y_TA_notedAt y_TA_notedAt, .code y_TA_notedAt b_TA_notedAt 2 (some (.int)), .methodLink R_LT 227 y_LT_remove, .instanceMethod y_LT_remove, .code y_LT_remove b_LT_remove 5 (some (.int)), .methodLink R_LT 256 y_ND_delete, .instanceMethod y_ND_delete, .selects R_ND y_ND_delete y_ND_delete, .code y_ND_delete b_ND_delete 3 none, .methodLink R_LT 259 y_SP_add, .instanceMethod y_SP_add, .selects R_SP y_SP_add y_SP_add, .code y_SP_add b_SP_add 2 none, .methodLink R_SP 19 y_SP_has, .instanceMethod y_SP_has, .code y_SP_has b_SP_has 3 (some (.boolean)), .methodLink R_LT 230 y_LT_join, .instanceMethod y_LT_join, .code y_LT_join b_LT_join 7 (some (.int)), .methodLink R_LT 262 y_ND_entryOfChild, .instanceMethod y_ND_entryOfChild, .selects R_ND y_ND_entryOfChild y_ND_entryOfChild, .code y_ND_entryOfChild b_ND_entryOfChild 3 (some (.int)), .methodLink R_LT 265 y_ND_takeAllOf, .instanceMethod y_ND_takeAllOf, .selects R_ND y_ND_takeAllOf y_ND_takeAllOf, .code y_ND_takeAllOf b_ND_takeAllOf 2 none]
def lk_G6 : List Cond := [.methodLink R_ND 55 y_ND_moveFirstOf, .instanceMethod y_ND_moveFirstOf, .code y_ND_moveFirstOf b_ND_moveFirstOf 4 none, .methodLink R_ND 51 y_ND_insert, .methodLink R_ND 62 y_ND_delete, .methodLink R_LT 269 y_LT_die, .instanceMethod y_LT_die, .code y_LT_die b_LT_die 5 none, .methodLink R_LT 279 y_SP_drop, .methodLink R_LT 282 y_ND_dieUntil, .methodLink R_LT 273 y_ND_shareWith, .instanceMethod y_ND_shareWith, .selects R_ND y_ND_shareWith y_ND_shareWith, .code y_ND_shareWith b_ND_shareWith 3 none, .methodLink R_ND 59 y_ND_moveLastTo, .instanceMethod y_ND_moveLastTo, .code y_ND_moveLastTo b_ND_moveLastTo 4 none, .methodLink R_LT 276 y_LT_lowerOrQueue, .instanceMethod y_LT_lowerOrQueue, .code y_LT_lowerOrQueue b_LT_lowerOrQueue 3 none, .methodLink R_LT 233 y_LT_post, .instanceMethod y_LT_post, .code y_LT_post b_LT_post 4 (some (.int)), .methodLink R_LT 250 y_ND_divideEntry, .instanceMethod y_ND_divideEntry, .selects R_ND y_ND_divideEntry y_ND_divideEntry, .code y_ND_divideEntry b_ND_divideEntry 4 none, .methodLink R_LW 58 y_LW_answer, .static y_LW_answer, .classLink R_LW 24 "java/util/NoSuchElementException", .methodLink R_LW 21 y_LT_answer, .instanceMethod y_LT_answer, .selects R_LT y_LT_answer y_LT_answer, .code y_LT_answer b_LT_answer 3 (some (.int)), .classLink R_LT 105 "java/util/NoSuchElementException", .methodLink R_LW 61 y_LW_look, .static y_LW_look, .methodLink R_LW 26 y_LT_look, .instanceMethod y_LT_look, .selects R_LT y_LT_look y_LT_look]
def lk_G7 : List Cond := [.code y_LT_look b_LT_look 4 (some (.int)), .methodLink R_LW 65 y_LW_page, .static y_LW_page, .methodLink R_LW 30 y_LT_page, .instanceMethod y_LT_page, .selects R_LT y_LT_page y_LT_page, .code y_LT_page b_LT_page 4 (some (.int)), .methodLink R_LW 68 y_LW_entry, .static y_LW_entry, .methodLink R_LW 33 y_LT_entry, .instanceMethod y_LT_entry, .selects R_LT y_LT_entry y_LT_entry, .code y_LT_entry b_LT_entry 5 (some (.int)), .methodLink R_LW 80 y_LW_under, .static y_LW_under, .methodLink R_LW 37 y_LT_under, .instanceMethod y_LT_under, .selects R_LT y_LT_under y_LT_under, .code y_LT_under b_LT_under 3 (some (.int)), .methodLink R_LT 164 y_LT_leafEntries, .instanceMethod y_LT_leafEntries, .code y_LT_leafEntries b_LT_leafEntries 5 (some (.int)), .classLink R_LW 41 R_MO, .instantiable R_MO 27, .methodLink R_LW 43 y_MO_init, .instanceMethod y_MO_init, .code y_MO_init b_MO_init 2 none, .methodLink R_MO 1 objectInit, .fieldLink R_MO 83 "LinkTreeModel" "thrown" "I", .fieldLink R_MO 7 "LinkTreeModel" "kind" "[I", .fieldLink R_MO 13 "LinkTreeModel" "level" "[I", .fieldLink R_MO 16 "LinkTreeModel" "low" "[I", .fieldLink R_MO 19 "LinkTreeModel" "high" "[I", .fieldLink R_MO 22 "LinkTreeModel" "right" "[I", .fieldLink R_MO 25 "LinkTreeModel" "count" "[I", .fieldLink R_MO 28 "LinkTreeModel" "owner" "[I", .fieldLink R_MO 31 "LinkTreeModel" "first" "[I", .fieldLink R_MO 34 "LinkTreeModel" "second" "[I", .fieldLink R_MO 37 "LinkTreeModel" "awaited" "[I", .fieldLink R_MO 108 "LinkTreeModel" "root" "I"]
def lk_G8 : List Cond := [.fieldLink R_MO 91 "LinkTreeModel" "queued" "I", .fieldLink R_MO 40 "LinkTreeModel" "queue" "[I", .fieldLink R_MO 43 "LinkTreeModel" "busy" "[Z", .fieldLink R_MO 47 "LinkTreeModel" "operation" "[I", .fieldLink R_MO 50 "LinkTreeModel" "phase" "[I", .fieldLink R_MO 53 "LinkTreeModel" "place" "[I", .fieldLink R_MO 56 "LinkTreeModel" "key" "[I", .fieldLink R_MO 59 "LinkTreeModel" "want" "[I", .fieldLink R_MO 62 "LinkTreeModel" "given" "[I", .fieldLink R_MO 65 "LinkTreeModel" "about" "[I", .fieldLink R_MO 68 "LinkTreeModel" "path" "[I", .fieldLink R_MO 71 "LinkTreeModel" "answered" "[Z", .fieldLink R_MO 74 "LinkTreeModel" "answers" "[I", .fieldLink R_MO 77 "LinkTreeModel" "counts" "[I", .fieldLink R_MO 80 "LinkTreeModel" "open" "[I", .arrayClass .boolean, .methodLink R_LW 50 y_MO_thrown, .instanceMethod y_MO_thrown, .selects R_MO y_MO_thrown y_MO_thrown, .code y_MO_thrown b_MO_thrown 1 (some (.int)), .methodLink R_LW 49 y_MO_begin, .instanceMethod y_MO_begin, .selects R_MO y_MO_begin y_MO_begin, .code y_MO_begin b_MO_begin 5 none, .methodLink R_MO 115 y_MO_isTask, .instanceMethod y_MO_isTask, .code y_MO_isTask b_MO_isTask 2 (some (.boolean)), .methodLink R_MO 101 y_MO_within, .static y_MO_within, .code y_MO_within b_MO_within 3 (some (.boolean)), .methodLink R_MO 119 y_MO_fails, .instanceMethod y_MO_fails, .code y_MO_fails b_MO_fails 3 (some (.boolean)), .methodLink R_MO 105 y_MO_forgetPath, .instanceMethod y_MO_forgetPath, .code y_MO_forgetPath b_MO_forgetPath 3 none, .methodLink R_MO 111 y_MO_search, .instanceMethod y_MO_search, .code y_MO_search b_MO_search 3 none, .methodLink R_MO 123 y_MO_beginJoin]
def lk_G9 : List Cond := [.instanceMethod y_MO_beginJoin, .code y_MO_beginJoin b_MO_beginJoin 3 none, .methodLink R_MO 94 y_MO_leaveQueue, .instanceMethod y_MO_leaveQueue, .code y_MO_leaveQueue b_MO_leaveQueue 4 none, .methodLink R_LW 57 y_MO_step, .instanceMethod y_MO_step, .selects R_MO y_MO_step y_MO_step, .code y_MO_step b_MO_step 3 (some (.int)), .methodLink R_MO 170 y_MO_searches, .instanceMethod y_MO_searches, .code y_MO_searches b_MO_searches 3 (some (.int)), .methodLink R_MO 126 y_MO_finish, .instanceMethod y_MO_finish, .code y_MO_finish b_MO_finish 4 (some (.int)), .methodLink R_MO 98 y_MO_release, .instanceMethod y_MO_release, .code y_MO_release b_MO_release 2 none, .methodLink R_MO 129 y_MO_isLost, .instanceMethod y_MO_isLost, .code y_MO_isLost b_MO_isLost 3 (some (.boolean)), .methodLink R_MO 132 y_MO_restart, .instanceMethod y_MO_restart, .code y_MO_restart b_MO_restart 2 (some (.int)), .methodLink R_MO 136 y_MO_goRight, .instanceMethod y_MO_goRight, .code y_MO_goRight b_MO_goRight 2 none, .methodLink R_MO 87 y_MO_from, .instanceMethod y_MO_from, .code y_MO_from b_MO_from 4 (some (.int)), .methodLink R_MO 139 y_MO_rises, .instanceMethod y_MO_rises, .code y_MO_rises b_MO_rises 3 (some (.int)), .methodLink R_MO 146 y_MO_freePage, .instanceMethod y_MO_freePage, .code y_MO_freePage b_MO_freePage 2 (some (.int)), .methodLink R_MO 150 y_MO_make, .instanceMethod y_MO_make, .code y_MO_make b_MO_make 6 none, .methodLink R_MO 154 y_MO_append]
def lk_G10 : List Cond := [.instanceMethod y_MO_append, .code y_MO_append b_MO_append 4 none, .methodLink R_MO 142 y_MO_has, .instanceMethod y_MO_has, .code y_MO_has b_MO_has 4 (some (.boolean)), .methodLink R_MO 173 y_MO_locks, .instanceMethod y_MO_locks, .code y_MO_locks b_MO_locks 3 (some (.int)), .methodLink R_MO 176 y_MO_holds, .instanceMethod y_MO_holds, .code y_MO_holds b_MO_holds 5 (some (.int)), .methodLink R_MO 158 y_MO_puts, .instanceMethod y_MO_puts, .code y_MO_puts b_MO_puts 5 (some (.int)), .methodLink R_MO 179 y_MO_insert, .instanceMethod y_MO_insert, .code y_MO_insert b_MO_insert 6 none, .methodLink R_MO 183 y_MO_split, .instanceMethod y_MO_split, .code y_MO_split b_MO_split 5 none, .methodLink R_MO 161 y_MO_posts, .instanceMethod y_MO_posts, .code y_MO_posts b_MO_posts 4 (some (.int)), .methodLink R_MO 164 y_MO_removes, .instanceMethod y_MO_removes, .code y_MO_removes b_MO_removes 5 (some (.int)), .methodLink R_MO 186 y_MO_takeOut, .instanceMethod y_MO_takeOut, .code y_MO_takeOut b_MO_takeOut 4 none, .methodLink R_MO 189 y_MO_comeIntoQueue, .instanceMethod y_MO_comeIntoQueue, .code y_MO_comeIntoQueue b_MO_comeIntoQueue 4 none, .methodLink R_MO 167 y_MO_joins, .instanceMethod y_MO_joins, .code y_MO_joins b_MO_joins 7 (some (.int)), .methodLink R_MO 192 y_MO_childOf, .instanceMethod y_MO_childOf, .code y_MO_childOf b_MO_childOf 4 (some (.int)), .methodLink R_MO 195 y_MO_balance, .instanceMethod y_MO_balance]
def lk_G11 : List Cond := [.code y_MO_balance b_MO_balance 5 none, .methodLink R_MO 198 y_MO_die, .instanceMethod y_MO_die, .code y_MO_die b_MO_die 4 none, .methodLink R_MO 201 y_MO_shrinks, .instanceMethod y_MO_shrinks, .code y_MO_shrinks b_MO_shrinks 3 none, .methodLink R_LW 60 y_MO_answer, .instanceMethod y_MO_answer, .selects R_MO y_MO_answer y_MO_answer, .code y_MO_answer b_MO_answer 2 (some (.int)), .methodLink R_LW 64 y_MO_look, .instanceMethod y_MO_look, .selects R_MO y_MO_look y_MO_look, .code y_MO_look b_MO_look 3 (some (.int)), .methodLink R_LW 67 y_MO_page, .instanceMethod y_MO_page, .selects R_MO y_MO_page y_MO_page, .code y_MO_page b_MO_page 3 (some (.int)), .methodLink R_LW 71 y_MO_entry, .instanceMethod y_MO_entry, .selects R_MO y_MO_entry y_MO_entry, .code y_MO_entry b_MO_entry 4 (some (.int)), .methodLink R_MO 204 y_MO_isNode, .instanceMethod y_MO_isNode, .code y_MO_isNode b_MO_isNode 2 (some (.boolean)), .methodLink R_LW 75 y_MO_root, .instanceMethod y_MO_root, .selects R_MO y_MO_root y_MO_root, .code y_MO_root b_MO_root 1 (some (.int)), .methodLink R_LW 79 y_MO_queued, .instanceMethod y_MO_queued, .selects R_MO y_MO_queued y_MO_queued, .code y_MO_queued b_MO_queued 1 (some (.int)), .methodLink R_LW 82 y_MO_under, .instanceMethod y_MO_under, .selects R_MO y_MO_under y_MO_under, .code y_MO_under b_MO_under 6 (some (.int)), .arrayClass .long, .selects R_LT y_LT_chooseSmallPage y_LT_chooseSmallPage]
def lk_G12 : List Cond := [.selects R_LT y_LT_nodeAt y_LT_nodeAt, .selects R_LT y_LT_advance y_LT_advance, .selects R_LT y_LT_finish y_LT_finish, .selects R_LT y_LT_search y_LT_search, .selects R_LT y_LT_restart y_LT_restart, .selects R_LT y_LT_goRight y_LT_goRight, .selects R_LT y_LT_searchBelowWanted y_LT_searchBelowWanted, .selects R_LT y_LT_leastFreeNode y_LT_leastFreeNode, .selects R_LT y_LT_lock y_LT_lock, .selects R_LT y_LT_hold y_LT_hold, .selects R_LT y_LT_put y_LT_put, .selects R_LT y_LT_split y_LT_split, .selects R_LT y_LT_remove y_LT_remove, .selects R_SP y_SP_has y_SP_has, .selects R_LT y_LT_join y_LT_join, .selects R_ND y_ND_moveFirstOf y_ND_moveFirstOf, .selects R_LT y_LT_die y_LT_die, .selects R_ND y_ND_moveLastTo y_ND_moveLastTo, .selects R_LT y_LT_lowerOrQueue y_LT_lowerOrQueue, .selects R_LT y_LT_post y_LT_post, .selects R_LT y_LT_leafEntries y_LT_leafEntries, .selects R_MO y_MO_isTask y_MO_isTask, .selects R_MO y_MO_fails y_MO_fails, .selects R_MO y_MO_forgetPath y_MO_forgetPath, .selects R_MO y_MO_search y_MO_search, .selects R_MO y_MO_beginJoin y_MO_beginJoin, .selects R_MO y_MO_leaveQueue y_MO_leaveQueue, .selects R_MO y_MO_searches y_MO_searches, .selects R_MO y_MO_finish y_MO_finish, .selects R_MO y_MO_release y_MO_release, .selects R_MO y_MO_isLost y_MO_isLost, .selects R_MO y_MO_restart y_MO_restart, .selects R_MO y_MO_goRight y_MO_goRight, .selects R_MO y_MO_from y_MO_from, .selects R_MO y_MO_rises y_MO_rises, .selects R_MO y_MO_freePage y_MO_freePage, .selects R_MO y_MO_make y_MO_make, .selects R_MO y_MO_append y_MO_append, .selects R_MO y_MO_has y_MO_has, .selects R_MO y_MO_locks y_MO_locks]
def lk_G13 : List Cond := [.selects R_MO y_MO_holds y_MO_holds, .selects R_MO y_MO_puts y_MO_puts, .selects R_MO y_MO_insert y_MO_insert, .selects R_MO y_MO_split y_MO_split, .selects R_MO y_MO_posts y_MO_posts, .selects R_MO y_MO_removes y_MO_removes, .selects R_MO y_MO_takeOut y_MO_takeOut, .selects R_MO y_MO_comeIntoQueue y_MO_comeIntoQueue, .selects R_MO y_MO_joins y_MO_joins, .selects R_MO y_MO_childOf y_MO_childOf, .selects R_MO y_MO_balance y_MO_balance, .selects R_MO y_MO_die y_MO_die, .selects R_MO y_MO_shrinks y_MO_shrinks, .selects R_MO y_MO_isNode y_MO_isNode]
def lk_G : List Cond := lk_G0 ++ (lk_G1 ++ (lk_G2 ++ (lk_G3 ++ (lk_G4 ++ (lk_G5 ++ (lk_G6 ++ (lk_G7 ++ (lk_G8 ++ (lk_G9 ++ (lk_G10 ++ (lk_G11 ++ (lk_G12 ++ (lk_G13 ++ ((u_ws R_LT T_LT 5) ++ ((u_ws R_ND T_ND 11) ++ ((u_ws R_TA T_TA 16) ++ ((u_ws R_SP T_SP 2) ++ ((u_ws R_MO T_MO 27)))))))))))))))))))
theorem lk_inG0 {w : Cond} (h : w ∈ lk_G0) : w ∈ lk_G := List.mem_append_left _ (h)
theorem lk_inG1 {w : Cond} (h : w ∈ lk_G1) : w ∈ lk_G := List.mem_append_right _ (List.mem_append_left _ (h))
theorem lk_inG2 {w : Cond} (h : w ∈ lk_G2) : w ∈ lk_G := List.mem_append_right _ (List.mem_append_right _ (List.mem_append_left _ (h)))
theorem lk_inG3 {w : Cond} (h : w ∈ lk_G3) : w ∈ lk_G := List.mem_append_right _ (List.mem_append_right _ (List.mem_append_right _ (List.mem_append_left _ (h))))
theorem lk_inG4 {w : Cond} (h : w ∈ lk_G4) : w ∈ lk_G := List.mem_append_right _ (List.mem_append_right _ (List.mem_append_right _ (List.mem_append_right _ (List.mem_append_left _ (h)))))
theorem lk_inG5 {w : Cond} (h : w ∈ lk_G5) : w ∈ lk_G := List.mem_append_right _ (List.mem_append_right _ (List.mem_append_right _ (List.mem_append_right _ (List.mem_append_right _ (List.mem_append_left _ (h))))))
theorem lk_inG6 {w : Cond} (h : w ∈ lk_G6) : w ∈ lk_G := List.mem_append_right _ (List.mem_append_right _ (List.mem_append_right _ (List.mem_append_right _ (List.mem_append_right _ (List.mem_append_right _ (List.mem_append_left _ (h)))))))
theorem lk_inG7 {w : Cond} (h : w ∈ lk_G7) : w ∈ lk_G := List.mem_append_right _ (List.mem_append_right _ (List.mem_append_right _ (List.mem_append_right _ (List.mem_append_right _ (List.mem_append_right _ (List.mem_append_right _ (List.mem_append_left _ (h))))))))
theorem lk_inG8 {w : Cond} (h : w ∈ lk_G8) : w ∈ lk_G := List.mem_append_right _ (List.mem_append_right _ (List.mem_append_right _ (List.mem_append_right _ (List.mem_append_right _ (List.mem_append_right _ (List.mem_append_right _ (List.mem_append_right _ (List.mem_append_left _ (h)))))))))
theorem lk_inG9 {w : Cond} (h : w ∈ lk_G9) : w ∈ lk_G := List.mem_append_right _ (List.mem_append_right _ (List.mem_append_right _ (List.mem_append_right _ (List.mem_append_right _ (List.mem_append_right _ (List.mem_append_right _ (List.mem_append_right _ (List.mem_append_right _ (List.mem_append_left _ (h))))))))))
theorem lk_inG10 {w : Cond} (h : w ∈ lk_G10) : w ∈ lk_G := List.mem_append_right _ (List.mem_append_right _ (List.mem_append_right _ (List.mem_append_right _ (List.mem_append_right _ (List.mem_append_right _ (List.mem_append_right _ (List.mem_append_right _ (List.mem_append_right _ (List.mem_append_right _ (List.mem_append_left _ (h)))))))))))
theorem lk_inG11 {w : Cond} (h : w ∈ lk_G11) : w ∈ lk_G := List.mem_append_right _ (List.mem_append_right _ (List.mem_append_right _ (List.mem_append_right _ (List.mem_append_right _ (List.mem_append_right _ (List.mem_append_right _ (List.mem_append_right _ (List.mem_append_right _ (List.mem_append_right _ (List.mem_append_right _ (List.mem_append_left _ (h))))))))))))
theorem lk_inG12 {w : Cond} (h : w ∈ lk_G12) : w ∈ lk_G := List.mem_append_right _ (List.mem_append_right _ (List.mem_append_right _ (List.mem_append_right _ (List.mem_append_right _ (List.mem_append_right _ (List.mem_append_right _ (List.mem_append_right _ (List.mem_append_right _ (List.mem_append_right _ (List.mem_append_right _ (List.mem_append_right _ (List.mem_append_left _ (h)))))))))))))
theorem lk_inG13 {w : Cond} (h : w ∈ lk_G13) : w ∈ lk_G := List.mem_append_right _ (List.mem_append_right _ (List.mem_append_right _ (List.mem_append_right _ (List.mem_append_right _ (List.mem_append_right _ (List.mem_append_right _ (List.mem_append_right _ (List.mem_append_right _ (List.mem_append_right _ (List.mem_append_right _ (List.mem_append_right _ (List.mem_append_right _ (List.mem_append_left _ (h))))))))))))))
theorem gl_LT : ∀ w ∈ u_ws R_LT T_LT 5, w ∈ lk_G := fun w h => List.mem_append_right _ (List.mem_append_right _ (List.mem_append_right _ (List.mem_append_right _ (List.mem_append_right _ (List.mem_append_right _ (List.mem_append_right _ (List.mem_append_right _ (List.mem_append_right _ (List.mem_append_right _ (List.mem_append_right _ (List.mem_append_right _ (List.mem_append_right _ (List.mem_append_right _ (List.mem_append_left _ (h)))))))))))))))
theorem gl_ND : ∀ w ∈ u_ws R_ND T_ND 11, w ∈ lk_G := fun w h => List.mem_append_right _ (List.mem_append_right _ (List.mem_append_right _ (List.mem_append_right _ (List.mem_append_right _ (List.mem_append_right _ (List.mem_append_right _ (List.mem_append_right _ (List.mem_append_right _ (List.mem_append_right _ (List.mem_append_right _ (List.mem_append_right _ (List.mem_append_right _ (List.mem_append_right _ (List.mem_append_right _ (List.mem_append_left _ (h))))))))))))))))
theorem gl_TA : ∀ w ∈ u_ws R_TA T_TA 16, w ∈ lk_G := fun w h => List.mem_append_right _ (List.mem_append_right _ (List.mem_append_right _ (List.mem_append_right _ (List.mem_append_right _ (List.mem_append_right _ (List.mem_append_right _ (List.mem_append_right _ (List.mem_append_right _ (List.mem_append_right _ (List.mem_append_right _ (List.mem_append_right _ (List.mem_append_right _ (List.mem_append_right _ (List.mem_append_right _ (List.mem_append_right _ (List.mem_append_left _ (h)))))))))))))))))
theorem gl_SP : ∀ w ∈ u_ws R_SP T_SP 2, w ∈ lk_G := fun w h => List.mem_append_right _ (List.mem_append_right _ (List.mem_append_right _ (List.mem_append_right _ (List.mem_append_right _ (List.mem_append_right _ (List.mem_append_right _ (List.mem_append_right _ (List.mem_append_right _ (List.mem_append_right _ (List.mem_append_right _ (List.mem_append_right _ (List.mem_append_right _ (List.mem_append_right _ (List.mem_append_right _ (List.mem_append_right _ (List.mem_append_right _ (List.mem_append_left _ (h))))))))))))))))))
theorem gl_MO : ∀ w ∈ u_ws R_MO T_MO 27, w ∈ lk_G := fun w h => List.mem_append_right _ (List.mem_append_right _ (List.mem_append_right _ (List.mem_append_right _ (List.mem_append_right _ (List.mem_append_right _ (List.mem_append_right _ (List.mem_append_right _ (List.mem_append_right _ (List.mem_append_right _ (List.mem_append_right _ (List.mem_append_right _ (List.mem_append_right _ (List.mem_append_right _ (List.mem_append_right _ (List.mem_append_right _ (List.mem_append_right _ (List.mem_append_right _ (h))))))))))))))))))
theorem gn_LW : Cond.initialized R_LW ∈ lk_G := lk_inG0 (List.mem_of_getElem? (i := 0) rfl)
theorem gn_LT : Cond.initialized R_LT ∈ lk_G := lk_inG0 (List.mem_of_getElem? (i := 1) rfl)
theorem gn_ND : Cond.initialized R_ND ∈ lk_G := lk_inG0 (List.mem_of_getElem? (i := 2) rfl)
theorem gn_TA : Cond.initialized R_TA ∈ lk_G := lk_inG0 (List.mem_of_getElem? (i := 3) rfl)
theorem gn_SP : Cond.initialized R_SP ∈ lk_G := lk_inG0 (List.mem_of_getElem? (i := 4) rfl)
theorem gn_MO : Cond.initialized R_MO ∈ lk_G := lk_inG0 (List.mem_of_getElem? (i := 5) rfl)
theorem gn_Throwable : Cond.initialized "java/lang/Throwable" ∈ lk_G := lk_inG0 (List.mem_of_getElem? (i := 6) rfl)
theorem gn_Exception : Cond.initialized "java/lang/Exception" ∈ lk_G := lk_inG0 (List.mem_of_getElem? (i := 7) rfl)
theorem gn_RuntimeException : Cond.initialized "java/lang/RuntimeException" ∈ lk_G := lk_inG0 (List.mem_of_getElem? (i := 8) rfl)
theorem gn_IllegalArgumentException : Cond.initialized "java/lang/IllegalArgumentException" ∈ lk_G := lk_inG0 (List.mem_of_getElem? (i := 9) rfl)
theorem gn_IllegalStateException : Cond.initialized "java/lang/IllegalStateException" ∈ lk_G := lk_inG0 (List.mem_of_getElem? (i := 10) rfl)
theorem gn_NoSuchElementException : Cond.initialized "java/util/NoSuchElementException" ∈ lk_G := lk_inG0 (List.mem_of_getElem? (i := 11) rfl)
theorem gk_LW_8 : Cond.classLink R_LW 8 R_LT ∈ lk_G := lk_inG0 (List.mem_of_getElem? (i := 12) rfl)
theorem ga_LT : Cond.instantiable R_LT 5 ∈ lk_G := lk_inG0 (List.mem_of_getElem? (i := 13) rfl)
theorem gm_LW_40 : Cond.methodLink R_LW 40 y_LT_init ∈ lk_G := lk_inG0 (List.mem_of_getElem? (i := 14) rfl)
theorem gi_LT_init : Cond.instanceMethod y_LT_init ∈ lk_G := lk_inG0 (List.mem_of_getElem? (i := 15) rfl)
theorem gc_LT_init : Cond.code y_LT_init b_LT_init 2 none ∈ lk_G := lk_inG0 (List.mem_of_getElem? (i := 16) rfl)
theorem gm_LT_3 : Cond.methodLink R_LT 3 objectInit ∈ lk_G := lk_inG0 (List.mem_of_getElem? (i := 17) rfl)
theorem gi_OBJ : Cond.instanceMethod objectInit ∈ lk_G := lk_inG0 (List.mem_of_getElem? (i := 18) rfl)
theorem gc_OBJ : Cond.code objectInit ⟨#[0xb1]⟩ 1 none ∈ lk_G := lk_inG0 (List.mem_of_getElem? (i := 19) rfl)
theorem gk_LT_9 : Cond.classLink R_LT 9 R_ND ∈ lk_G := lk_inG0 (List.mem_of_getElem? (i := 20) rfl)
theorem ga_ND : Cond.instantiable R_ND 11 ∈ lk_G := lk_inG0 (List.mem_of_getElem? (i := 21) rfl)
theorem gm_LT_15 : Cond.methodLink R_LT 15 y_ND_init ∈ lk_G := lk_inG0 (List.mem_of_getElem? (i := 22) rfl)
theorem gi_ND_init : Cond.instanceMethod y_ND_init ∈ lk_G := lk_inG0 (List.mem_of_getElem? (i := 23) rfl)
theorem gc_ND_init : Cond.code y_ND_init b_ND_init 2 none ∈ lk_G := lk_inG0 (List.mem_of_getElem? (i := 24) rfl)
theorem gm_ND_3 : Cond.methodLink R_ND 3 objectInit ∈ lk_G := lk_inG0 (List.mem_of_getElem? (i := 25) rfl)
theorem gf_ND_28 : Cond.fieldLink R_ND 28 "LinkTree$Node" "number" "I" ∈ lk_G := lk_inG0 (List.mem_of_getElem? (i := 26) rfl)
theorem gf_LT_198 : Cond.fieldLink R_LT 198 "LinkTree$Node" "number" "I" ∈ lk_G := lk_inG0 (List.mem_of_getElem? (i := 27) rfl)
theorem gf_ND_9 : Cond.fieldLink R_ND 9 "LinkTree$Node" "keys" "[I" ∈ lk_G := lk_inG0 (List.mem_of_getElem? (i := 28) rfl)
theorem gf_LT_158 : Cond.fieldLink R_LT 158 "LinkTree$Node" "keys" "[I" ∈ lk_G := lk_inG0 (List.mem_of_getElem? (i := 29) rfl)
theorem gf_ND_15 : Cond.fieldLink R_ND 15 "LinkTree$Node" "seconds" "[I" ∈ lk_G := lk_inG0 (List.mem_of_getElem? (i := 30) rfl)
theorem gf_LT_154 : Cond.fieldLink R_LT 154 "LinkTree$Node" "seconds" "[I" ∈ lk_G := lk_inG0 (List.mem_of_getElem? (i := 31) rfl)
theorem gf_ND_40 : Cond.fieldLink R_ND 40 "LinkTree$Node" "count" "I" ∈ lk_G := lk_inG0 (List.mem_of_getElem? (i := 32) rfl)
theorem gf_LT_142 : Cond.fieldLink R_LT 142 "LinkTree$Node" "count" "I" ∈ lk_G := lk_inG0 (List.mem_of_getElem? (i := 33) rfl)
theorem gf_ND_18 : Cond.fieldLink R_ND 18 "LinkTree$Node" "kind" "I" ∈ lk_G := lk_inG0 (List.mem_of_getElem? (i := 34) rfl)
theorem gf_LT_22 : Cond.fieldLink R_LT 22 "LinkTree$Node" "kind" "I" ∈ lk_G := lk_inG0 (List.mem_of_getElem? (i := 35) rfl)
theorem gf_ND_31 : Cond.fieldLink R_ND 31 "LinkTree$Node" "level" "I" ∈ lk_G := lk_inG0 (List.mem_of_getElem? (i := 36) rfl)
theorem gf_LT_132 : Cond.fieldLink R_LT 132 "LinkTree$Node" "level" "I" ∈ lk_G := lk_inG0 (List.mem_of_getElem? (i := 37) rfl)
theorem gf_ND_34 : Cond.fieldLink R_ND 34 "LinkTree$Node" "low" "I" ∈ lk_G := lk_inG0 (List.mem_of_getElem? (i := 38) rfl)
theorem gf_LT_133 : Cond.fieldLink R_LT 133 "LinkTree$Node" "low" "I" ∈ lk_G := lk_inG0 (List.mem_of_getElem? (i := 39) rfl)
theorem gf_ND_37 : Cond.fieldLink R_ND 37 "LinkTree$Node" "high" "I" ∈ lk_G := lk_inG1 (List.mem_of_getElem? (i := 0) rfl)
theorem gf_LT_136 : Cond.fieldLink R_LT 136 "LinkTree$Node" "high" "I" ∈ lk_G := lk_inG1 (List.mem_of_getElem? (i := 1) rfl)
theorem gf_ND_22 : Cond.fieldLink R_ND 22 "LinkTree$Node" "right" "I" ∈ lk_G := lk_inG1 (List.mem_of_getElem? (i := 2) rfl)
theorem gf_LT_139 : Cond.fieldLink R_LT 139 "LinkTree$Node" "right" "I" ∈ lk_G := lk_inG1 (List.mem_of_getElem? (i := 3) rfl)
theorem gf_ND_25 : Cond.fieldLink R_ND 25 "LinkTree$Node" "locker" "I" ∈ lk_G := lk_inG1 (List.mem_of_getElem? (i := 4) rfl)
theorem gf_LT_145 : Cond.fieldLink R_LT 145 "LinkTree$Node" "locker" "I" ∈ lk_G := lk_inG1 (List.mem_of_getElem? (i := 5) rfl)
theorem gf_ND_66 : Cond.fieldLink R_ND 66 "LinkTree$Node" "awaited" "I" ∈ lk_G := lk_inG1 (List.mem_of_getElem? (i := 6) rfl)
theorem gA_int : Cond.arrayClass .int ∈ lk_G := lk_inG1 (List.mem_of_getElem? (i := 7) rfl)
theorem gk_LT_26 : Cond.classLink R_LT 26 R_TA ∈ lk_G := lk_inG1 (List.mem_of_getElem? (i := 8) rfl)
theorem ga_TA : Cond.instantiable R_TA 16 ∈ lk_G := lk_inG1 (List.mem_of_getElem? (i := 9) rfl)
theorem gm_LT_32 : Cond.methodLink R_LT 32 y_TA_init ∈ lk_G := lk_inG1 (List.mem_of_getElem? (i := 10) rfl)
theorem gi_TA_init : Cond.instanceMethod y_TA_init ∈ lk_G := lk_inG1 (List.mem_of_getElem? (i := 11) rfl)
theorem gc_TA_init : Cond.code y_TA_init b_TA_init 2 none ∈ lk_G := lk_inG1 (List.mem_of_getElem? (i := 12) rfl)
theorem gm_TA_3 : Cond.methodLink R_TA 3 objectInit ∈ lk_G := lk_inG1 (List.mem_of_getElem? (i := 13) rfl)
theorem gf_TA_19 : Cond.fieldLink R_TA 19 "LinkTree$Task" "number" "I" ∈ lk_G := lk_inG1 (List.mem_of_getElem? (i := 14) rfl)
theorem gf_LT_223 : Cond.fieldLink R_LT 223 "LinkTree$Task" "number" "I" ∈ lk_G := lk_inG1 (List.mem_of_getElem? (i := 15) rfl)
theorem gf_TA_9 : Cond.fieldLink R_TA 9 "LinkTree$Task" "path" "[I" ∈ lk_G := lk_inG1 (List.mem_of_getElem? (i := 16) rfl)
theorem gf_TA_15 : Cond.fieldLink R_TA 15 "LinkTree$Task" "idle" "Z" ∈ lk_G := lk_inG1 (List.mem_of_getElem? (i := 17) rfl)
theorem gf_LT_60 : Cond.fieldLink R_LT 60 "LinkTree$Task" "idle" "Z" ∈ lk_G := lk_inG1 (List.mem_of_getElem? (i := 18) rfl)
theorem gf_LT_69 : Cond.fieldLink R_LT 69 "LinkTree$Task" "operation" "I" ∈ lk_G := lk_inG1 (List.mem_of_getElem? (i := 19) rfl)
theorem gf_TA_23 : Cond.fieldLink R_TA 23 "LinkTree$Task" "phase" "I" ∈ lk_G := lk_inG1 (List.mem_of_getElem? (i := 20) rfl)
theorem gf_LT_115 : Cond.fieldLink R_LT 115 "LinkTree$Task" "phase" "I" ∈ lk_G := lk_inG1 (List.mem_of_getElem? (i := 21) rfl)
theorem gf_TA_26 : Cond.fieldLink R_TA 26 "LinkTree$Task" "place" "I" ∈ lk_G := lk_inG1 (List.mem_of_getElem? (i := 22) rfl)
theorem gf_LT_118 : Cond.fieldLink R_LT 118 "LinkTree$Task" "place" "I" ∈ lk_G := lk_inG1 (List.mem_of_getElem? (i := 23) rfl)
theorem gf_LT_72 : Cond.fieldLink R_LT 72 "LinkTree$Task" "key" "I" ∈ lk_G := lk_inG1 (List.mem_of_getElem? (i := 24) rfl)
theorem gf_LT_75 : Cond.fieldLink R_LT 75 "LinkTree$Task" "value" "I" ∈ lk_G := lk_inG1 (List.mem_of_getElem? (i := 25) rfl)
theorem gf_LT_78 : Cond.fieldLink R_LT 78 "LinkTree$Task" "level" "I" ∈ lk_G := lk_inG1 (List.mem_of_getElem? (i := 26) rfl)
theorem gf_LT_172 : Cond.fieldLink R_LT 172 "LinkTree$Task" "subject" "I" ∈ lk_G := lk_inG1 (List.mem_of_getElem? (i := 27) rfl)
theorem gf_LT_102 : Cond.fieldLink R_LT 102 "LinkTree$Task" "hasAnswered" "Z" ∈ lk_G := lk_inG1 (List.mem_of_getElem? (i := 28) rfl)
theorem gf_LT_110 : Cond.fieldLink R_LT 110 "LinkTree$Task" "latestAnswer" "I" ∈ lk_G := lk_inG1 (List.mem_of_getElem? (i := 29) rfl)
theorem gf_LT_96 : Cond.fieldLink R_LT 96 "LinkTree$Task" "steps" "I" ∈ lk_G := lk_inG1 (List.mem_of_getElem? (i := 30) rfl)
theorem gf_LT_99 : Cond.fieldLink R_LT 99 "LinkTree$Task" "blocks" "I" ∈ lk_G := lk_inG1 (List.mem_of_getElem? (i := 31) rfl)
theorem gf_LT_121 : Cond.fieldLink R_LT 121 "LinkTree$Task" "rights" "I" ∈ lk_G := lk_inG1 (List.mem_of_getElem? (i := 32) rfl)
theorem gf_LT_124 : Cond.fieldLink R_LT 124 "LinkTree$Task" "restarts" "I" ∈ lk_G := lk_inG1 (List.mem_of_getElem? (i := 33) rfl)
theorem gk_LT_33 : Cond.classLink R_LT 33 R_SP ∈ lk_G := lk_inG1 (List.mem_of_getElem? (i := 34) rfl)
theorem ga_SP : Cond.instantiable R_SP 2 ∈ lk_G := lk_inG1 (List.mem_of_getElem? (i := 35) rfl)
theorem gi_SP_init : Cond.instanceMethod y_SP_init ∈ lk_G := lk_inG1 (List.mem_of_getElem? (i := 36) rfl)
theorem gc_SP_init : Cond.code y_SP_init b_SP_init 1 none ∈ lk_G := lk_inG1 (List.mem_of_getElem? (i := 37) rfl)
theorem gm_SP_3 : Cond.methodLink R_SP 3 objectInit ∈ lk_G := lk_inG1 (List.mem_of_getElem? (i := 38) rfl)
theorem gf_SP_9 : Cond.fieldLink R_SP 9 "LinkTree$SmallPages" "pages" "[I" ∈ lk_G := lk_inG1 (List.mem_of_getElem? (i := 39) rfl)
theorem gf_SP_15 : Cond.fieldLink R_SP 15 "LinkTree$SmallPages" "count" "I" ∈ lk_G := lk_inG2 (List.mem_of_getElem? (i := 0) rfl)
theorem gf_LT_161 : Cond.fieldLink R_LT 161 "LinkTree$SmallPages" "count" "I" ∈ lk_G := lk_inG2 (List.mem_of_getElem? (i := 1) rfl)
theorem gm_LT_43 : Cond.methodLink R_LT 43 y_ND_become ∈ lk_G := lk_inG2 (List.mem_of_getElem? (i := 2) rfl)
theorem gi_ND_become : Cond.instanceMethod y_ND_become ∈ lk_G := lk_inG2 (List.mem_of_getElem? (i := 3) rfl)
theorem gs_ND_become : Cond.selects R_ND y_ND_become y_ND_become ∈ lk_G := lk_inG2 (List.mem_of_getElem? (i := 4) rfl)
theorem gc_ND_become : Cond.code y_ND_become b_ND_become 5 none ∈ lk_G := lk_inG2 (List.mem_of_getElem? (i := 5) rfl)
theorem gf_LT_11 : Cond.fieldLink R_LT 11 "LinkTree" "nodes" "[LLinkTree$Node;" ∈ lk_G := lk_inG2 (List.mem_of_getElem? (i := 6) rfl)
theorem gf_LT_18 : Cond.fieldLink R_LT 18 "LinkTree" "nowhere" "LLinkTree$Node;" ∈ lk_G := lk_inG2 (List.mem_of_getElem? (i := 7) rfl)
theorem gf_LT_28 : Cond.fieldLink R_LT 28 "LinkTree" "tasks" "[LLinkTree$Task;" ∈ lk_G := lk_inG2 (List.mem_of_getElem? (i := 8) rfl)
theorem gf_LT_36 : Cond.fieldLink R_LT 36 "LinkTree" "small" "LLinkTree$SmallPages;" ∈ lk_G := lk_inG2 (List.mem_of_getElem? (i := 9) rfl)
theorem gf_LT_40 : Cond.fieldLink R_LT 40 "LinkTree" "rootPage" "I" ∈ lk_G := lk_inG2 (List.mem_of_getElem? (i := 10) rfl)
theorem gm_LW_72 : Cond.methodLink R_LW 72 y_LT_root ∈ lk_G := lk_inG2 (List.mem_of_getElem? (i := 11) rfl)
theorem gi_LT_root : Cond.instanceMethod y_LT_root ∈ lk_G := lk_inG2 (List.mem_of_getElem? (i := 12) rfl)
theorem gs_LT_root : Cond.selects R_LT y_LT_root y_LT_root ∈ lk_G := lk_inG2 (List.mem_of_getElem? (i := 13) rfl)
theorem gc_LT_root : Cond.code y_LT_root b_LT_root 1 (some (.int)) ∈ lk_G := lk_inG2 (List.mem_of_getElem? (i := 14) rfl)
theorem gm_LW_76 : Cond.methodLink R_LW 76 y_LT_queued ∈ lk_G := lk_inG2 (List.mem_of_getElem? (i := 15) rfl)
theorem gi_LT_queued : Cond.instanceMethod y_LT_queued ∈ lk_G := lk_inG2 (List.mem_of_getElem? (i := 16) rfl)
theorem gs_LT_queued : Cond.selects R_LT y_LT_queued y_LT_queued ∈ lk_G := lk_inG2 (List.mem_of_getElem? (i := 17) rfl)
theorem gc_LT_queued : Cond.code y_LT_queued b_LT_queued 1 (some (.int)) ∈ lk_G := lk_inG2 (List.mem_of_getElem? (i := 18) rfl)
theorem gm_LW_44 : Cond.methodLink R_LW 44 y_LW_begin ∈ lk_G := lk_inG2 (List.mem_of_getElem? (i := 19) rfl)
theorem gt_LW_begin : Cond.static y_LW_begin ∈ lk_G := lk_inG2 (List.mem_of_getElem? (i := 20) rfl)
theorem gk_LW_13 : Cond.classLink R_LW 13 "java/lang/IllegalArgumentException" ∈ lk_G := lk_inG2 (List.mem_of_getElem? (i := 21) rfl)
theorem gk_LW_15 : Cond.classLink R_LW 15 "java/lang/IllegalStateException" ∈ lk_G := lk_inG2 (List.mem_of_getElem? (i := 22) rfl)
theorem gm_LW_7 : Cond.methodLink R_LW 7 y_LT_begin ∈ lk_G := lk_inG2 (List.mem_of_getElem? (i := 23) rfl)
theorem gi_LT_begin : Cond.instanceMethod y_LT_begin ∈ lk_G := lk_inG2 (List.mem_of_getElem? (i := 24) rfl)
theorem gs_LT_begin : Cond.selects R_LT y_LT_begin y_LT_begin ∈ lk_G := lk_inG2 (List.mem_of_getElem? (i := 25) rfl)
theorem gc_LT_begin : Cond.code y_LT_begin b_LT_begin 6 none ∈ lk_G := lk_inG2 (List.mem_of_getElem? (i := 26) rfl)
theorem gm_LT_47 : Cond.methodLink R_LT 47 y_LT_isTask ∈ lk_G := lk_inG2 (List.mem_of_getElem? (i := 27) rfl)
theorem gt_LT_isTask : Cond.static y_LT_isTask ∈ lk_G := lk_inG2 (List.mem_of_getElem? (i := 28) rfl)
theorem gc_LT_isTask : Cond.code y_LT_isTask b_LT_isTask 1 (some (.boolean)) ∈ lk_G := lk_inG2 (List.mem_of_getElem? (i := 29) rfl)
theorem gk_LT_51 : Cond.classLink R_LT 51 "java/lang/IllegalArgumentException" ∈ lk_G := lk_inG2 (List.mem_of_getElem? (i := 30) rfl)
theorem gA_byte : Cond.arrayClass .byte ∈ lk_G := lk_inG2 (List.mem_of_getElem? (i := 31) rfl)
theorem gk_LT_64 : Cond.classLink R_LT 64 "java/lang/IllegalStateException" ∈ lk_G := lk_inG2 (List.mem_of_getElem? (i := 32) rfl)
theorem gm_LT_81 : Cond.methodLink R_LT 81 y_TA_searchAnew ∈ lk_G := lk_inG2 (List.mem_of_getElem? (i := 33) rfl)
theorem gi_TA_searchAnew : Cond.instanceMethod y_TA_searchAnew ∈ lk_G := lk_inG2 (List.mem_of_getElem? (i := 34) rfl)
theorem gs_TA_searchAnew : Cond.selects R_TA y_TA_searchAnew y_TA_searchAnew ∈ lk_G := lk_inG2 (List.mem_of_getElem? (i := 35) rfl)
theorem gc_TA_searchAnew : Cond.code y_TA_searchAnew b_TA_searchAnew 3 none ∈ lk_G := lk_inG2 (List.mem_of_getElem? (i := 36) rfl)
theorem gm_LT_84 : Cond.methodLink R_LT 84 y_LT_chooseSmallPage ∈ lk_G := lk_inG2 (List.mem_of_getElem? (i := 37) rfl)
theorem gi_LT_chooseSmallPage : Cond.instanceMethod y_LT_chooseSmallPage ∈ lk_G := lk_inG2 (List.mem_of_getElem? (i := 38) rfl)
theorem gc_LT_chooseSmallPage : Cond.code y_LT_chooseSmallPage b_LT_chooseSmallPage 4 none ∈ lk_G := lk_inG2 (List.mem_of_getElem? (i := 39) rfl)
theorem gm_LT_168 : Cond.methodLink R_LT 168 y_SP_takeFirst ∈ lk_G := lk_inG3 (List.mem_of_getElem? (i := 0) rfl)
theorem gi_SP_takeFirst : Cond.instanceMethod y_SP_takeFirst ∈ lk_G := lk_inG3 (List.mem_of_getElem? (i := 1) rfl)
theorem gs_SP_takeFirst : Cond.selects R_SP y_SP_takeFirst y_SP_takeFirst ∈ lk_G := lk_inG3 (List.mem_of_getElem? (i := 2) rfl)
theorem gc_SP_takeFirst : Cond.code y_SP_takeFirst b_SP_takeFirst 2 (some (.int)) ∈ lk_G := lk_inG3 (List.mem_of_getElem? (i := 3) rfl)
theorem gm_SP_23 : Cond.methodLink R_SP 23 y_SP_drop ∈ lk_G := lk_inG3 (List.mem_of_getElem? (i := 4) rfl)
theorem gi_SP_drop : Cond.instanceMethod y_SP_drop ∈ lk_G := lk_inG3 (List.mem_of_getElem? (i := 5) rfl)
theorem gs_SP_drop : Cond.selects R_SP y_SP_drop y_SP_drop ∈ lk_G := lk_inG3 (List.mem_of_getElem? (i := 6) rfl)
theorem gc_SP_drop : Cond.code y_SP_drop b_SP_drop 4 none ∈ lk_G := lk_inG3 (List.mem_of_getElem? (i := 7) rfl)
theorem gm_LT_148 : Cond.methodLink R_LT 148 y_LT_nodeAt ∈ lk_G := lk_inG3 (List.mem_of_getElem? (i := 8) rfl)
theorem gi_LT_nodeAt : Cond.instanceMethod y_LT_nodeAt ∈ lk_G := lk_inG3 (List.mem_of_getElem? (i := 9) rfl)
theorem gc_LT_nodeAt : Cond.code y_LT_nodeAt b_LT_nodeAt 2 (some (.object "LinkTree$Node")) ∈ lk_G := lk_inG3 (List.mem_of_getElem? (i := 10) rfl)
theorem gm_LT_127 : Cond.methodLink R_LT 127 y_LT_isPage ∈ lk_G := lk_inG3 (List.mem_of_getElem? (i := 11) rfl)
theorem gt_LT_isPage : Cond.static y_LT_isPage ∈ lk_G := lk_inG3 (List.mem_of_getElem? (i := 12) rfl)
theorem gc_LT_isPage : Cond.code y_LT_isPage b_LT_isPage 1 (some (.boolean)) ∈ lk_G := lk_inG3 (List.mem_of_getElem? (i := 13) rfl)
theorem gm_LW_54 : Cond.methodLink R_LW 54 y_LW_step ∈ lk_G := lk_inG3 (List.mem_of_getElem? (i := 14) rfl)
theorem gt_LW_step : Cond.static y_LW_step ∈ lk_G := lk_inG3 (List.mem_of_getElem? (i := 15) rfl)
theorem gm_LW_17 : Cond.methodLink R_LW 17 y_LT_step ∈ lk_G := lk_inG3 (List.mem_of_getElem? (i := 16) rfl)
theorem gi_LT_step : Cond.instanceMethod y_LT_step ∈ lk_G := lk_inG3 (List.mem_of_getElem? (i := 17) rfl)
theorem gs_LT_step : Cond.selects R_LT y_LT_step y_LT_step ∈ lk_G := lk_inG3 (List.mem_of_getElem? (i := 18) rfl)
theorem gc_LT_step : Cond.code y_LT_step b_LT_step 4 (some (.int)) ∈ lk_G := lk_inG3 (List.mem_of_getElem? (i := 19) rfl)
theorem gm_LT_92 : Cond.methodLink R_LT 92 y_LT_advance ∈ lk_G := lk_inG3 (List.mem_of_getElem? (i := 20) rfl)
theorem gi_LT_advance : Cond.instanceMethod y_LT_advance ∈ lk_G := lk_inG3 (List.mem_of_getElem? (i := 21) rfl)
theorem gc_LT_advance : Cond.code y_LT_advance b_LT_advance 3 (some (.int)) ∈ lk_G := lk_inG3 (List.mem_of_getElem? (i := 22) rfl)
theorem gm_LT_175 : Cond.methodLink R_LT 175 y_LT_finish ∈ lk_G := lk_inG3 (List.mem_of_getElem? (i := 23) rfl)
theorem gi_LT_finish : Cond.instanceMethod y_LT_finish ∈ lk_G := lk_inG3 (List.mem_of_getElem? (i := 24) rfl)
theorem gc_LT_finish : Cond.code y_LT_finish b_LT_finish 4 (some (.int)) ∈ lk_G := lk_inG3 (List.mem_of_getElem? (i := 25) rfl)
theorem gm_LT_236 : Cond.methodLink R_LT 236 y_ND_awaitNoMore ∈ lk_G := lk_inG3 (List.mem_of_getElem? (i := 26) rfl)
theorem gi_ND_awaitNoMore : Cond.instanceMethod y_ND_awaitNoMore ∈ lk_G := lk_inG3 (List.mem_of_getElem? (i := 27) rfl)
theorem gs_ND_awaitNoMore : Cond.selects R_ND y_ND_awaitNoMore y_ND_awaitNoMore ∈ lk_G := lk_inG3 (List.mem_of_getElem? (i := 28) rfl)
theorem gc_ND_awaitNoMore : Cond.code y_ND_awaitNoMore b_ND_awaitNoMore 2 none ∈ lk_G := lk_inG3 (List.mem_of_getElem? (i := 29) rfl)
theorem gm_ND_69 : Cond.methodLink R_ND 69 y_ND_dieUntil ∈ lk_G := lk_inG3 (List.mem_of_getElem? (i := 30) rfl)
theorem gi_ND_dieUntil : Cond.instanceMethod y_ND_dieUntil ∈ lk_G := lk_inG3 (List.mem_of_getElem? (i := 31) rfl)
theorem gs_ND_dieUntil : Cond.selects R_ND y_ND_dieUntil y_ND_dieUntil ∈ lk_G := lk_inG3 (List.mem_of_getElem? (i := 32) rfl)
theorem gc_ND_dieUntil : Cond.code y_ND_dieUntil b_ND_dieUntil 2 none ∈ lk_G := lk_inG3 (List.mem_of_getElem? (i := 33) rfl)
theorem gm_LT_179 : Cond.methodLink R_LT 179 y_LT_search ∈ lk_G := lk_inG3 (List.mem_of_getElem? (i := 34) rfl)
theorem gi_LT_search : Cond.instanceMethod y_LT_search ∈ lk_G := lk_inG3 (List.mem_of_getElem? (i := 35) rfl)
theorem gc_LT_search : Cond.code y_LT_search b_LT_search 3 (some (.int)) ∈ lk_G := lk_inG3 (List.mem_of_getElem? (i := 36) rfl)
theorem gm_LT_189 : Cond.methodLink R_LT 189 y_ND_isWrongFor ∈ lk_G := lk_inG3 (List.mem_of_getElem? (i := 37) rfl)
theorem gi_ND_isWrongFor : Cond.instanceMethod y_ND_isWrongFor ∈ lk_G := lk_inG3 (List.mem_of_getElem? (i := 38) rfl)
theorem gs_ND_isWrongFor : Cond.selects R_ND y_ND_isWrongFor y_ND_isWrongFor ∈ lk_G := lk_inG3 (List.mem_of_getElem? (i := 39) rfl)
theorem gc_ND_isWrongFor : Cond.code y_ND_isWrongFor b_ND_isWrongFor 2 (some (.boolean)) ∈ lk_G := lk_inG4 (List.mem_of_getElem? (i := 0) rfl)
theorem gm_LT_192 : Cond.methodLink R_LT 192 y_LT_restart ∈ lk_G := lk_inG4 (List.mem_of_getElem? (i := 1) rfl)
theorem gi_LT_restart : Cond.instanceMethod y_LT_restart ∈ lk_G := lk_inG4 (List.mem_of_getElem? (i := 2) rfl)
theorem gc_LT_restart : Cond.code y_LT_restart b_LT_restart 2 (some (.int)) ∈ lk_G := lk_inG4 (List.mem_of_getElem? (i := 3) rfl)
theorem gm_LT_195 : Cond.methodLink R_LT 195 y_LT_goRight ∈ lk_G := lk_inG4 (List.mem_of_getElem? (i := 4) rfl)
theorem gi_LT_goRight : Cond.instanceMethod y_LT_goRight ∈ lk_G := lk_inG4 (List.mem_of_getElem? (i := 5) rfl)
theorem gc_LT_goRight : Cond.code y_LT_goRight b_LT_goRight 3 (some (.int)) ∈ lk_G := lk_inG4 (List.mem_of_getElem? (i := 6) rfl)
theorem gm_LT_201 : Cond.methodLink R_LT 201 y_TA_note ∈ lk_G := lk_inG4 (List.mem_of_getElem? (i := 7) rfl)
theorem gi_TA_note : Cond.instanceMethod y_TA_note ∈ lk_G := lk_inG4 (List.mem_of_getElem? (i := 8) rfl)
theorem gs_TA_note : Cond.selects R_TA y_TA_note y_TA_note ∈ lk_G := lk_inG4 (List.mem_of_getElem? (i := 9) rfl)
theorem gc_TA_note : Cond.code y_TA_note b_TA_note 3 none ∈ lk_G := lk_inG4 (List.mem_of_getElem? (i := 10) rfl)
theorem gm_LT_205 : Cond.methodLink R_LT 205 y_ND_childFor ∈ lk_G := lk_inG4 (List.mem_of_getElem? (i := 11) rfl)
theorem gi_ND_childFor : Cond.instanceMethod y_ND_childFor ∈ lk_G := lk_inG4 (List.mem_of_getElem? (i := 12) rfl)
theorem gs_ND_childFor : Cond.selects R_ND y_ND_childFor y_ND_childFor ∈ lk_G := lk_inG4 (List.mem_of_getElem? (i := 13) rfl)
theorem gc_ND_childFor : Cond.code y_ND_childFor b_ND_childFor 3 (some (.int)) ∈ lk_G := lk_inG4 (List.mem_of_getElem? (i := 14) rfl)
theorem gm_ND_43 : Cond.methodLink R_ND 43 y_ND_firstNotBelow ∈ lk_G := lk_inG4 (List.mem_of_getElem? (i := 15) rfl)
theorem gi_ND_firstNotBelow : Cond.instanceMethod y_ND_firstNotBelow ∈ lk_G := lk_inG4 (List.mem_of_getElem? (i := 16) rfl)
theorem gs_ND_firstNotBelow : Cond.selects R_ND y_ND_firstNotBelow y_ND_firstNotBelow ∈ lk_G := lk_inG4 (List.mem_of_getElem? (i := 17) rfl)
theorem gc_ND_firstNotBelow : Cond.code y_ND_firstNotBelow b_ND_firstNotBelow 3 (some (.int)) ∈ lk_G := lk_inG4 (List.mem_of_getElem? (i := 18) rfl)
theorem gm_LT_209 : Cond.methodLink R_LT 209 y_LT_searchBelowWanted ∈ lk_G := lk_inG4 (List.mem_of_getElem? (i := 19) rfl)
theorem gi_LT_searchBelowWanted : Cond.instanceMethod y_LT_searchBelowWanted ∈ lk_G := lk_inG4 (List.mem_of_getElem? (i := 20) rfl)
theorem gc_LT_searchBelowWanted : Cond.code y_LT_searchBelowWanted b_LT_searchBelowWanted 4 (some (.int)) ∈ lk_G := lk_inG4 (List.mem_of_getElem? (i := 21) rfl)
theorem gm_LT_215 : Cond.methodLink R_LT 215 y_LT_leastFreeNode ∈ lk_G := lk_inG4 (List.mem_of_getElem? (i := 22) rfl)
theorem gi_LT_leastFreeNode : Cond.instanceMethod y_LT_leastFreeNode ∈ lk_G := lk_inG4 (List.mem_of_getElem? (i := 23) rfl)
theorem gc_LT_leastFreeNode : Cond.code y_LT_leastFreeNode b_LT_leastFreeNode 2 (some (.object "LinkTree$Node")) ∈ lk_G := lk_inG4 (List.mem_of_getElem? (i := 24) rfl)
theorem gm_LT_219 : Cond.methodLink R_LT 219 y_ND_insert ∈ lk_G := lk_inG4 (List.mem_of_getElem? (i := 25) rfl)
theorem gi_ND_insert : Cond.instanceMethod y_ND_insert ∈ lk_G := lk_inG4 (List.mem_of_getElem? (i := 26) rfl)
theorem gs_ND_insert : Cond.selects R_ND y_ND_insert y_ND_insert ∈ lk_G := lk_inG4 (List.mem_of_getElem? (i := 27) rfl)
theorem gc_ND_insert : Cond.code y_ND_insert b_ND_insert 5 none ∈ lk_G := lk_inG4 (List.mem_of_getElem? (i := 28) rfl)
theorem gm_LT_212 : Cond.methodLink R_LT 212 y_ND_valueOf ∈ lk_G := lk_inG4 (List.mem_of_getElem? (i := 29) rfl)
theorem gi_ND_valueOf : Cond.instanceMethod y_ND_valueOf ∈ lk_G := lk_inG4 (List.mem_of_getElem? (i := 30) rfl)
theorem gs_ND_valueOf : Cond.selects R_ND y_ND_valueOf y_ND_valueOf ∈ lk_G := lk_inG4 (List.mem_of_getElem? (i := 31) rfl)
theorem gc_ND_valueOf : Cond.code y_ND_valueOf b_ND_valueOf 3 (some (.int)) ∈ lk_G := lk_inG4 (List.mem_of_getElem? (i := 32) rfl)
theorem gm_ND_47 : Cond.methodLink R_ND 47 y_ND_hasKeyAt ∈ lk_G := lk_inG4 (List.mem_of_getElem? (i := 33) rfl)
theorem gi_ND_hasKeyAt : Cond.instanceMethod y_ND_hasKeyAt ∈ lk_G := lk_inG4 (List.mem_of_getElem? (i := 34) rfl)
theorem gs_ND_hasKeyAt : Cond.selects R_ND y_ND_hasKeyAt y_ND_hasKeyAt ∈ lk_G := lk_inG4 (List.mem_of_getElem? (i := 35) rfl)
theorem gc_ND_hasKeyAt : Cond.code y_ND_hasKeyAt b_ND_hasKeyAt 3 (some (.boolean)) ∈ lk_G := lk_inG4 (List.mem_of_getElem? (i := 36) rfl)
theorem gm_LT_183 : Cond.methodLink R_LT 183 y_LT_lock ∈ lk_G := lk_inG4 (List.mem_of_getElem? (i := 37) rfl)
theorem gi_LT_lock : Cond.instanceMethod y_LT_lock ∈ lk_G := lk_inG4 (List.mem_of_getElem? (i := 38) rfl)
theorem gc_LT_lock : Cond.code y_LT_lock b_LT_lock 3 (some (.int)) ∈ lk_G := lk_inG4 (List.mem_of_getElem? (i := 39) rfl)
theorem gm_LT_186 : Cond.methodLink R_LT 186 y_LT_hold ∈ lk_G := lk_inG5 (List.mem_of_getElem? (i := 0) rfl)
theorem gi_LT_hold : Cond.instanceMethod y_LT_hold ∈ lk_G := lk_inG5 (List.mem_of_getElem? (i := 1) rfl)
theorem gc_LT_hold : Cond.code y_LT_hold b_LT_hold 4 (some (.int)) ∈ lk_G := lk_inG5 (List.mem_of_getElem? (i := 2) rfl)
theorem gm_LT_224 : Cond.methodLink R_LT 224 y_LT_put ∈ lk_G := lk_inG5 (List.mem_of_getElem? (i := 3) rfl)
theorem gi_LT_put : Cond.instanceMethod y_LT_put ∈ lk_G := lk_inG5 (List.mem_of_getElem? (i := 4) rfl)
theorem gc_LT_put : Cond.code y_LT_put b_LT_put 5 (some (.int)) ∈ lk_G := lk_inG5 (List.mem_of_getElem? (i := 5) rfl)
theorem gm_LT_239 : Cond.methodLink R_LT 239 y_ND_firstNotBelow ∈ lk_G := lk_inG5 (List.mem_of_getElem? (i := 6) rfl)
theorem gm_LT_242 : Cond.methodLink R_LT 242 y_ND_hasKeyAt ∈ lk_G := lk_inG5 (List.mem_of_getElem? (i := 7) rfl)
theorem gm_LT_246 : Cond.methodLink R_LT 246 y_LT_split ∈ lk_G := lk_inG5 (List.mem_of_getElem? (i := 8) rfl)
theorem gi_LT_split : Cond.instanceMethod y_LT_split ∈ lk_G := lk_inG5 (List.mem_of_getElem? (i := 9) rfl)
theorem gc_LT_split : Cond.code y_LT_split b_LT_split 6 none ∈ lk_G := lk_inG5 (List.mem_of_getElem? (i := 10) rfl)
theorem gm_LT_253 : Cond.methodLink R_LT 253 y_TA_notedAt ∈ lk_G := lk_inG5 (List.mem_of_getElem? (i := 11) rfl)
theorem gi_TA_notedAt : Cond.instanceMethod y_TA_notedAt ∈ lk_G := lk_inG5 (List.mem_of_getElem? (i := 12) rfl)
theorem gs_TA_notedAt : Cond.selects R_TA y_TA_notedAt y_TA_notedAt ∈ lk_G := lk_inG5 (List.mem_of_getElem? (i := 13) rfl)
theorem gc_TA_notedAt : Cond.code y_TA_notedAt b_TA_notedAt 2 (some (.int)) ∈ lk_G := lk_inG5 (List.mem_of_getElem? (i := 14) rfl)
theorem gm_LT_227 : Cond.methodLink R_LT 227 y_LT_remove ∈ lk_G := lk_inG5 (List.mem_of_getElem? (i := 15) rfl)
theorem gi_LT_remove : Cond.instanceMethod y_LT_remove ∈ lk_G := lk_inG5 (List.mem_of_getElem? (i := 16) rfl)
theorem gc_LT_remove : Cond.code y_LT_remove b_LT_remove 5 (some (.int)) ∈ lk_G := lk_inG5 (List.mem_of_getElem? (i := 17) rfl)
theorem gm_LT_256 : Cond.methodLink R_LT 256 y_ND_delete ∈ lk_G := lk_inG5 (List.mem_of_getElem? (i := 18) rfl)
theorem gi_ND_delete : Cond.instanceMethod y_ND_delete ∈ lk_G := lk_inG5 (List.mem_of_getElem? (i := 19) rfl)
theorem gs_ND_delete : Cond.selects R_ND y_ND_delete y_ND_delete ∈ lk_G := lk_inG5 (List.mem_of_getElem? (i := 20) rfl)
theorem gc_ND_delete : Cond.code y_ND_delete b_ND_delete 3 none ∈ lk_G := lk_inG5 (List.mem_of_getElem? (i := 21) rfl)
theorem gm_LT_259 : Cond.methodLink R_LT 259 y_SP_add ∈ lk_G := lk_inG5 (List.mem_of_getElem? (i := 22) rfl)
theorem gi_SP_add : Cond.instanceMethod y_SP_add ∈ lk_G := lk_inG5 (List.mem_of_getElem? (i := 23) rfl)
theorem gs_SP_add : Cond.selects R_SP y_SP_add y_SP_add ∈ lk_G := lk_inG5 (List.mem_of_getElem? (i := 24) rfl)
theorem gc_SP_add : Cond.code y_SP_add b_SP_add 2 none ∈ lk_G := lk_inG5 (List.mem_of_getElem? (i := 25) rfl)
theorem gm_SP_19 : Cond.methodLink R_SP 19 y_SP_has ∈ lk_G := lk_inG5 (List.mem_of_getElem? (i := 26) rfl)
theorem gi_SP_has : Cond.instanceMethod y_SP_has ∈ lk_G := lk_inG5 (List.mem_of_getElem? (i := 27) rfl)
theorem gc_SP_has : Cond.code y_SP_has b_SP_has 3 (some (.boolean)) ∈ lk_G := lk_inG5 (List.mem_of_getElem? (i := 28) rfl)
theorem gm_LT_230 : Cond.methodLink R_LT 230 y_LT_join ∈ lk_G := lk_inG5 (List.mem_of_getElem? (i := 29) rfl)
theorem gi_LT_join : Cond.instanceMethod y_LT_join ∈ lk_G := lk_inG5 (List.mem_of_getElem? (i := 30) rfl)
theorem gc_LT_join : Cond.code y_LT_join b_LT_join 7 (some (.int)) ∈ lk_G := lk_inG5 (List.mem_of_getElem? (i := 31) rfl)
theorem gm_LT_262 : Cond.methodLink R_LT 262 y_ND_entryOfChild ∈ lk_G := lk_inG5 (List.mem_of_getElem? (i := 32) rfl)
theorem gi_ND_entryOfChild : Cond.instanceMethod y_ND_entryOfChild ∈ lk_G := lk_inG5 (List.mem_of_getElem? (i := 33) rfl)
theorem gs_ND_entryOfChild : Cond.selects R_ND y_ND_entryOfChild y_ND_entryOfChild ∈ lk_G := lk_inG5 (List.mem_of_getElem? (i := 34) rfl)
theorem gc_ND_entryOfChild : Cond.code y_ND_entryOfChild b_ND_entryOfChild 3 (some (.int)) ∈ lk_G := lk_inG5 (List.mem_of_getElem? (i := 35) rfl)
theorem gm_LT_265 : Cond.methodLink R_LT 265 y_ND_takeAllOf ∈ lk_G := lk_inG5 (List.mem_of_getElem? (i := 36) rfl)
theorem gi_ND_takeAllOf : Cond.instanceMethod y_ND_takeAllOf ∈ lk_G := lk_inG5 (List.mem_of_getElem? (i := 37) rfl)
theorem gs_ND_takeAllOf : Cond.selects R_ND y_ND_takeAllOf y_ND_takeAllOf ∈ lk_G := lk_inG5 (List.mem_of_getElem? (i := 38) rfl)
theorem gc_ND_takeAllOf : Cond.code y_ND_takeAllOf b_ND_takeAllOf 2 none ∈ lk_G := lk_inG5 (List.mem_of_getElem? (i := 39) rfl)
theorem gm_ND_55 : Cond.methodLink R_ND 55 y_ND_moveFirstOf ∈ lk_G := lk_inG6 (List.mem_of_getElem? (i := 0) rfl)
theorem gi_ND_moveFirstOf : Cond.instanceMethod y_ND_moveFirstOf ∈ lk_G := lk_inG6 (List.mem_of_getElem? (i := 1) rfl)
theorem gc_ND_moveFirstOf : Cond.code y_ND_moveFirstOf b_ND_moveFirstOf 4 none ∈ lk_G := lk_inG6 (List.mem_of_getElem? (i := 2) rfl)
theorem gm_ND_51 : Cond.methodLink R_ND 51 y_ND_insert ∈ lk_G := lk_inG6 (List.mem_of_getElem? (i := 3) rfl)
theorem gm_ND_62 : Cond.methodLink R_ND 62 y_ND_delete ∈ lk_G := lk_inG6 (List.mem_of_getElem? (i := 4) rfl)
theorem gm_LT_269 : Cond.methodLink R_LT 269 y_LT_die ∈ lk_G := lk_inG6 (List.mem_of_getElem? (i := 5) rfl)
theorem gi_LT_die : Cond.instanceMethod y_LT_die ∈ lk_G := lk_inG6 (List.mem_of_getElem? (i := 6) rfl)
theorem gc_LT_die : Cond.code y_LT_die b_LT_die 5 none ∈ lk_G := lk_inG6 (List.mem_of_getElem? (i := 7) rfl)
theorem gm_LT_279 : Cond.methodLink R_LT 279 y_SP_drop ∈ lk_G := lk_inG6 (List.mem_of_getElem? (i := 8) rfl)
theorem gm_LT_282 : Cond.methodLink R_LT 282 y_ND_dieUntil ∈ lk_G := lk_inG6 (List.mem_of_getElem? (i := 9) rfl)
theorem gm_LT_273 : Cond.methodLink R_LT 273 y_ND_shareWith ∈ lk_G := lk_inG6 (List.mem_of_getElem? (i := 10) rfl)
theorem gi_ND_shareWith : Cond.instanceMethod y_ND_shareWith ∈ lk_G := lk_inG6 (List.mem_of_getElem? (i := 11) rfl)
theorem gs_ND_shareWith : Cond.selects R_ND y_ND_shareWith y_ND_shareWith ∈ lk_G := lk_inG6 (List.mem_of_getElem? (i := 12) rfl)
theorem gc_ND_shareWith : Cond.code y_ND_shareWith b_ND_shareWith 3 none ∈ lk_G := lk_inG6 (List.mem_of_getElem? (i := 13) rfl)
theorem gm_ND_59 : Cond.methodLink R_ND 59 y_ND_moveLastTo ∈ lk_G := lk_inG6 (List.mem_of_getElem? (i := 14) rfl)
theorem gi_ND_moveLastTo : Cond.instanceMethod y_ND_moveLastTo ∈ lk_G := lk_inG6 (List.mem_of_getElem? (i := 15) rfl)
theorem gc_ND_moveLastTo : Cond.code y_ND_moveLastTo b_ND_moveLastTo 4 none ∈ lk_G := lk_inG6 (List.mem_of_getElem? (i := 16) rfl)
theorem gm_LT_276 : Cond.methodLink R_LT 276 y_LT_lowerOrQueue ∈ lk_G := lk_inG6 (List.mem_of_getElem? (i := 17) rfl)
theorem gi_LT_lowerOrQueue : Cond.instanceMethod y_LT_lowerOrQueue ∈ lk_G := lk_inG6 (List.mem_of_getElem? (i := 18) rfl)
theorem gc_LT_lowerOrQueue : Cond.code y_LT_lowerOrQueue b_LT_lowerOrQueue 3 none ∈ lk_G := lk_inG6 (List.mem_of_getElem? (i := 19) rfl)
theorem gm_LT_233 : Cond.methodLink R_LT 233 y_LT_post ∈ lk_G := lk_inG6 (List.mem_of_getElem? (i := 20) rfl)
theorem gi_LT_post : Cond.instanceMethod y_LT_post ∈ lk_G := lk_inG6 (List.mem_of_getElem? (i := 21) rfl)
theorem gc_LT_post : Cond.code y_LT_post b_LT_post 4 (some (.int)) ∈ lk_G := lk_inG6 (List.mem_of_getElem? (i := 22) rfl)
theorem gm_LT_250 : Cond.methodLink R_LT 250 y_ND_divideEntry ∈ lk_G := lk_inG6 (List.mem_of_getElem? (i := 23) rfl)
theorem gi_ND_divideEntry : Cond.instanceMethod y_ND_divideEntry ∈ lk_G := lk_inG6 (List.mem_of_getElem? (i := 24) rfl)
theorem gs_ND_divideEntry : Cond.selects R_ND y_ND_divideEntry y_ND_divideEntry ∈ lk_G := lk_inG6 (List.mem_of_getElem? (i := 25) rfl)
theorem gc_ND_divideEntry : Cond.code y_ND_divideEntry b_ND_divideEntry 4 none ∈ lk_G := lk_inG6 (List.mem_of_getElem? (i := 26) rfl)
theorem gm_LW_58 : Cond.methodLink R_LW 58 y_LW_answer ∈ lk_G := lk_inG6 (List.mem_of_getElem? (i := 27) rfl)
theorem gt_LW_answer : Cond.static y_LW_answer ∈ lk_G := lk_inG6 (List.mem_of_getElem? (i := 28) rfl)
theorem gk_LW_24 : Cond.classLink R_LW 24 "java/util/NoSuchElementException" ∈ lk_G := lk_inG6 (List.mem_of_getElem? (i := 29) rfl)
theorem gm_LW_21 : Cond.methodLink R_LW 21 y_LT_answer ∈ lk_G := lk_inG6 (List.mem_of_getElem? (i := 30) rfl)
theorem gi_LT_answer : Cond.instanceMethod y_LT_answer ∈ lk_G := lk_inG6 (List.mem_of_getElem? (i := 31) rfl)
theorem gs_LT_answer : Cond.selects R_LT y_LT_answer y_LT_answer ∈ lk_G := lk_inG6 (List.mem_of_getElem? (i := 32) rfl)
theorem gc_LT_answer : Cond.code y_LT_answer b_LT_answer 3 (some (.int)) ∈ lk_G := lk_inG6 (List.mem_of_getElem? (i := 33) rfl)
theorem gk_LT_105 : Cond.classLink R_LT 105 "java/util/NoSuchElementException" ∈ lk_G := lk_inG6 (List.mem_of_getElem? (i := 34) rfl)
theorem gm_LW_61 : Cond.methodLink R_LW 61 y_LW_look ∈ lk_G := lk_inG6 (List.mem_of_getElem? (i := 35) rfl)
theorem gt_LW_look : Cond.static y_LW_look ∈ lk_G := lk_inG6 (List.mem_of_getElem? (i := 36) rfl)
theorem gm_LW_26 : Cond.methodLink R_LW 26 y_LT_look ∈ lk_G := lk_inG6 (List.mem_of_getElem? (i := 37) rfl)
theorem gi_LT_look : Cond.instanceMethod y_LT_look ∈ lk_G := lk_inG6 (List.mem_of_getElem? (i := 38) rfl)
theorem gs_LT_look : Cond.selects R_LT y_LT_look y_LT_look ∈ lk_G := lk_inG6 (List.mem_of_getElem? (i := 39) rfl)
theorem gc_LT_look : Cond.code y_LT_look b_LT_look 4 (some (.int)) ∈ lk_G := lk_inG7 (List.mem_of_getElem? (i := 0) rfl)
theorem gm_LW_65 : Cond.methodLink R_LW 65 y_LW_page ∈ lk_G := lk_inG7 (List.mem_of_getElem? (i := 1) rfl)
theorem gt_LW_page : Cond.static y_LW_page ∈ lk_G := lk_inG7 (List.mem_of_getElem? (i := 2) rfl)
theorem gm_LW_30 : Cond.methodLink R_LW 30 y_LT_page ∈ lk_G := lk_inG7 (List.mem_of_getElem? (i := 3) rfl)
theorem gi_LT_page : Cond.instanceMethod y_LT_page ∈ lk_G := lk_inG7 (List.mem_of_getElem? (i := 4) rfl)
theorem gs_LT_page : Cond.selects R_LT y_LT_page y_LT_page ∈ lk_G := lk_inG7 (List.mem_of_getElem? (i := 5) rfl)
theorem gc_LT_page : Cond.code y_LT_page b_LT_page 4 (some (.int)) ∈ lk_G := lk_inG7 (List.mem_of_getElem? (i := 6) rfl)
theorem gm_LW_68 : Cond.methodLink R_LW 68 y_LW_entry ∈ lk_G := lk_inG7 (List.mem_of_getElem? (i := 7) rfl)
theorem gt_LW_entry : Cond.static y_LW_entry ∈ lk_G := lk_inG7 (List.mem_of_getElem? (i := 8) rfl)
theorem gm_LW_33 : Cond.methodLink R_LW 33 y_LT_entry ∈ lk_G := lk_inG7 (List.mem_of_getElem? (i := 9) rfl)
theorem gi_LT_entry : Cond.instanceMethod y_LT_entry ∈ lk_G := lk_inG7 (List.mem_of_getElem? (i := 10) rfl)
theorem gs_LT_entry : Cond.selects R_LT y_LT_entry y_LT_entry ∈ lk_G := lk_inG7 (List.mem_of_getElem? (i := 11) rfl)
theorem gc_LT_entry : Cond.code y_LT_entry b_LT_entry 5 (some (.int)) ∈ lk_G := lk_inG7 (List.mem_of_getElem? (i := 12) rfl)
theorem gm_LW_80 : Cond.methodLink R_LW 80 y_LW_under ∈ lk_G := lk_inG7 (List.mem_of_getElem? (i := 13) rfl)
theorem gt_LW_under : Cond.static y_LW_under ∈ lk_G := lk_inG7 (List.mem_of_getElem? (i := 14) rfl)
theorem gm_LW_37 : Cond.methodLink R_LW 37 y_LT_under ∈ lk_G := lk_inG7 (List.mem_of_getElem? (i := 15) rfl)
theorem gi_LT_under : Cond.instanceMethod y_LT_under ∈ lk_G := lk_inG7 (List.mem_of_getElem? (i := 16) rfl)
theorem gs_LT_under : Cond.selects R_LT y_LT_under y_LT_under ∈ lk_G := lk_inG7 (List.mem_of_getElem? (i := 17) rfl)
theorem gc_LT_under : Cond.code y_LT_under b_LT_under 3 (some (.int)) ∈ lk_G := lk_inG7 (List.mem_of_getElem? (i := 18) rfl)
theorem gm_LT_164 : Cond.methodLink R_LT 164 y_LT_leafEntries ∈ lk_G := lk_inG7 (List.mem_of_getElem? (i := 19) rfl)
theorem gi_LT_leafEntries : Cond.instanceMethod y_LT_leafEntries ∈ lk_G := lk_inG7 (List.mem_of_getElem? (i := 20) rfl)
theorem gc_LT_leafEntries : Cond.code y_LT_leafEntries b_LT_leafEntries 5 (some (.int)) ∈ lk_G := lk_inG7 (List.mem_of_getElem? (i := 21) rfl)
theorem gk_LW_41 : Cond.classLink R_LW 41 R_MO ∈ lk_G := lk_inG7 (List.mem_of_getElem? (i := 22) rfl)
theorem ga_MO : Cond.instantiable R_MO 27 ∈ lk_G := lk_inG7 (List.mem_of_getElem? (i := 23) rfl)
theorem gm_LW_43 : Cond.methodLink R_LW 43 y_MO_init ∈ lk_G := lk_inG7 (List.mem_of_getElem? (i := 24) rfl)
theorem gi_MO_init : Cond.instanceMethod y_MO_init ∈ lk_G := lk_inG7 (List.mem_of_getElem? (i := 25) rfl)
theorem gc_MO_init : Cond.code y_MO_init b_MO_init 2 none ∈ lk_G := lk_inG7 (List.mem_of_getElem? (i := 26) rfl)
theorem gm_MO_1 : Cond.methodLink R_MO 1 objectInit ∈ lk_G := lk_inG7 (List.mem_of_getElem? (i := 27) rfl)
theorem gf_MO_83 : Cond.fieldLink R_MO 83 "LinkTreeModel" "thrown" "I" ∈ lk_G := lk_inG7 (List.mem_of_getElem? (i := 28) rfl)
theorem gf_MO_7 : Cond.fieldLink R_MO 7 "LinkTreeModel" "kind" "[I" ∈ lk_G := lk_inG7 (List.mem_of_getElem? (i := 29) rfl)
theorem gf_MO_13 : Cond.fieldLink R_MO 13 "LinkTreeModel" "level" "[I" ∈ lk_G := lk_inG7 (List.mem_of_getElem? (i := 30) rfl)
theorem gf_MO_16 : Cond.fieldLink R_MO 16 "LinkTreeModel" "low" "[I" ∈ lk_G := lk_inG7 (List.mem_of_getElem? (i := 31) rfl)
theorem gf_MO_19 : Cond.fieldLink R_MO 19 "LinkTreeModel" "high" "[I" ∈ lk_G := lk_inG7 (List.mem_of_getElem? (i := 32) rfl)
theorem gf_MO_22 : Cond.fieldLink R_MO 22 "LinkTreeModel" "right" "[I" ∈ lk_G := lk_inG7 (List.mem_of_getElem? (i := 33) rfl)
theorem gf_MO_25 : Cond.fieldLink R_MO 25 "LinkTreeModel" "count" "[I" ∈ lk_G := lk_inG7 (List.mem_of_getElem? (i := 34) rfl)
theorem gf_MO_28 : Cond.fieldLink R_MO 28 "LinkTreeModel" "owner" "[I" ∈ lk_G := lk_inG7 (List.mem_of_getElem? (i := 35) rfl)
theorem gf_MO_31 : Cond.fieldLink R_MO 31 "LinkTreeModel" "first" "[I" ∈ lk_G := lk_inG7 (List.mem_of_getElem? (i := 36) rfl)
theorem gf_MO_34 : Cond.fieldLink R_MO 34 "LinkTreeModel" "second" "[I" ∈ lk_G := lk_inG7 (List.mem_of_getElem? (i := 37) rfl)
theorem gf_MO_37 : Cond.fieldLink R_MO 37 "LinkTreeModel" "awaited" "[I" ∈ lk_G := lk_inG7 (List.mem_of_getElem? (i := 38) rfl)
theorem gf_MO_108 : Cond.fieldLink R_MO 108 "LinkTreeModel" "root" "I" ∈ lk_G := lk_inG7 (List.mem_of_getElem? (i := 39) rfl)
theorem gf_MO_91 : Cond.fieldLink R_MO 91 "LinkTreeModel" "queued" "I" ∈ lk_G := lk_inG8 (List.mem_of_getElem? (i := 0) rfl)
theorem gf_MO_40 : Cond.fieldLink R_MO 40 "LinkTreeModel" "queue" "[I" ∈ lk_G := lk_inG8 (List.mem_of_getElem? (i := 1) rfl)
theorem gf_MO_43 : Cond.fieldLink R_MO 43 "LinkTreeModel" "busy" "[Z" ∈ lk_G := lk_inG8 (List.mem_of_getElem? (i := 2) rfl)
theorem gf_MO_47 : Cond.fieldLink R_MO 47 "LinkTreeModel" "operation" "[I" ∈ lk_G := lk_inG8 (List.mem_of_getElem? (i := 3) rfl)
theorem gf_MO_50 : Cond.fieldLink R_MO 50 "LinkTreeModel" "phase" "[I" ∈ lk_G := lk_inG8 (List.mem_of_getElem? (i := 4) rfl)
theorem gf_MO_53 : Cond.fieldLink R_MO 53 "LinkTreeModel" "place" "[I" ∈ lk_G := lk_inG8 (List.mem_of_getElem? (i := 5) rfl)
theorem gf_MO_56 : Cond.fieldLink R_MO 56 "LinkTreeModel" "key" "[I" ∈ lk_G := lk_inG8 (List.mem_of_getElem? (i := 6) rfl)
theorem gf_MO_59 : Cond.fieldLink R_MO 59 "LinkTreeModel" "want" "[I" ∈ lk_G := lk_inG8 (List.mem_of_getElem? (i := 7) rfl)
theorem gf_MO_62 : Cond.fieldLink R_MO 62 "LinkTreeModel" "given" "[I" ∈ lk_G := lk_inG8 (List.mem_of_getElem? (i := 8) rfl)
theorem gf_MO_65 : Cond.fieldLink R_MO 65 "LinkTreeModel" "about" "[I" ∈ lk_G := lk_inG8 (List.mem_of_getElem? (i := 9) rfl)
theorem gf_MO_68 : Cond.fieldLink R_MO 68 "LinkTreeModel" "path" "[I" ∈ lk_G := lk_inG8 (List.mem_of_getElem? (i := 10) rfl)
theorem gf_MO_71 : Cond.fieldLink R_MO 71 "LinkTreeModel" "answered" "[Z" ∈ lk_G := lk_inG8 (List.mem_of_getElem? (i := 11) rfl)
theorem gf_MO_74 : Cond.fieldLink R_MO 74 "LinkTreeModel" "answers" "[I" ∈ lk_G := lk_inG8 (List.mem_of_getElem? (i := 12) rfl)
theorem gf_MO_77 : Cond.fieldLink R_MO 77 "LinkTreeModel" "counts" "[I" ∈ lk_G := lk_inG8 (List.mem_of_getElem? (i := 13) rfl)
theorem gf_MO_80 : Cond.fieldLink R_MO 80 "LinkTreeModel" "open" "[I" ∈ lk_G := lk_inG8 (List.mem_of_getElem? (i := 14) rfl)
theorem gA_boolean : Cond.arrayClass .boolean ∈ lk_G := lk_inG8 (List.mem_of_getElem? (i := 15) rfl)
theorem gm_LW_50 : Cond.methodLink R_LW 50 y_MO_thrown ∈ lk_G := lk_inG8 (List.mem_of_getElem? (i := 16) rfl)
theorem gi_MO_thrown : Cond.instanceMethod y_MO_thrown ∈ lk_G := lk_inG8 (List.mem_of_getElem? (i := 17) rfl)
theorem gs_MO_thrown : Cond.selects R_MO y_MO_thrown y_MO_thrown ∈ lk_G := lk_inG8 (List.mem_of_getElem? (i := 18) rfl)
theorem gc_MO_thrown : Cond.code y_MO_thrown b_MO_thrown 1 (some (.int)) ∈ lk_G := lk_inG8 (List.mem_of_getElem? (i := 19) rfl)
theorem gm_LW_49 : Cond.methodLink R_LW 49 y_MO_begin ∈ lk_G := lk_inG8 (List.mem_of_getElem? (i := 20) rfl)
theorem gi_MO_begin : Cond.instanceMethod y_MO_begin ∈ lk_G := lk_inG8 (List.mem_of_getElem? (i := 21) rfl)
theorem gs_MO_begin : Cond.selects R_MO y_MO_begin y_MO_begin ∈ lk_G := lk_inG8 (List.mem_of_getElem? (i := 22) rfl)
theorem gc_MO_begin : Cond.code y_MO_begin b_MO_begin 5 none ∈ lk_G := lk_inG8 (List.mem_of_getElem? (i := 23) rfl)
theorem gm_MO_115 : Cond.methodLink R_MO 115 y_MO_isTask ∈ lk_G := lk_inG8 (List.mem_of_getElem? (i := 24) rfl)
theorem gi_MO_isTask : Cond.instanceMethod y_MO_isTask ∈ lk_G := lk_inG8 (List.mem_of_getElem? (i := 25) rfl)
theorem gc_MO_isTask : Cond.code y_MO_isTask b_MO_isTask 2 (some (.boolean)) ∈ lk_G := lk_inG8 (List.mem_of_getElem? (i := 26) rfl)
theorem gm_MO_101 : Cond.methodLink R_MO 101 y_MO_within ∈ lk_G := lk_inG8 (List.mem_of_getElem? (i := 27) rfl)
theorem gt_MO_within : Cond.static y_MO_within ∈ lk_G := lk_inG8 (List.mem_of_getElem? (i := 28) rfl)
theorem gc_MO_within : Cond.code y_MO_within b_MO_within 3 (some (.boolean)) ∈ lk_G := lk_inG8 (List.mem_of_getElem? (i := 29) rfl)
theorem gm_MO_119 : Cond.methodLink R_MO 119 y_MO_fails ∈ lk_G := lk_inG8 (List.mem_of_getElem? (i := 30) rfl)
theorem gi_MO_fails : Cond.instanceMethod y_MO_fails ∈ lk_G := lk_inG8 (List.mem_of_getElem? (i := 31) rfl)
theorem gc_MO_fails : Cond.code y_MO_fails b_MO_fails 3 (some (.boolean)) ∈ lk_G := lk_inG8 (List.mem_of_getElem? (i := 32) rfl)
theorem gm_MO_105 : Cond.methodLink R_MO 105 y_MO_forgetPath ∈ lk_G := lk_inG8 (List.mem_of_getElem? (i := 33) rfl)
theorem gi_MO_forgetPath : Cond.instanceMethod y_MO_forgetPath ∈ lk_G := lk_inG8 (List.mem_of_getElem? (i := 34) rfl)
theorem gc_MO_forgetPath : Cond.code y_MO_forgetPath b_MO_forgetPath 3 none ∈ lk_G := lk_inG8 (List.mem_of_getElem? (i := 35) rfl)
theorem gm_MO_111 : Cond.methodLink R_MO 111 y_MO_search ∈ lk_G := lk_inG8 (List.mem_of_getElem? (i := 36) rfl)
theorem gi_MO_search : Cond.instanceMethod y_MO_search ∈ lk_G := lk_inG8 (List.mem_of_getElem? (i := 37) rfl)
theorem gc_MO_search : Cond.code y_MO_search b_MO_search 3 none ∈ lk_G := lk_inG8 (List.mem_of_getElem? (i := 38) rfl)
theorem gm_MO_123 : Cond.methodLink R_MO 123 y_MO_beginJoin ∈ lk_G := lk_inG8 (List.mem_of_getElem? (i := 39) rfl)
theorem gi_MO_beginJoin : Cond.instanceMethod y_MO_beginJoin ∈ lk_G := lk_inG9 (List.mem_of_getElem? (i := 0) rfl)
theorem gc_MO_beginJoin : Cond.code y_MO_beginJoin b_MO_beginJoin 3 none ∈ lk_G := lk_inG9 (List.mem_of_getElem? (i := 1) rfl)
theorem gm_MO_94 : Cond.methodLink R_MO 94 y_MO_leaveQueue ∈ lk_G := lk_inG9 (List.mem_of_getElem? (i := 2) rfl)
theorem gi_MO_leaveQueue : Cond.instanceMethod y_MO_leaveQueue ∈ lk_G := lk_inG9 (List.mem_of_getElem? (i := 3) rfl)
theorem gc_MO_leaveQueue : Cond.code y_MO_leaveQueue b_MO_leaveQueue 4 none ∈ lk_G := lk_inG9 (List.mem_of_getElem? (i := 4) rfl)
theorem gm_LW_57 : Cond.methodLink R_LW 57 y_MO_step ∈ lk_G := lk_inG9 (List.mem_of_getElem? (i := 5) rfl)
theorem gi_MO_step : Cond.instanceMethod y_MO_step ∈ lk_G := lk_inG9 (List.mem_of_getElem? (i := 6) rfl)
theorem gs_MO_step : Cond.selects R_MO y_MO_step y_MO_step ∈ lk_G := lk_inG9 (List.mem_of_getElem? (i := 7) rfl)
theorem gc_MO_step : Cond.code y_MO_step b_MO_step 3 (some (.int)) ∈ lk_G := lk_inG9 (List.mem_of_getElem? (i := 8) rfl)
theorem gm_MO_170 : Cond.methodLink R_MO 170 y_MO_searches ∈ lk_G := lk_inG9 (List.mem_of_getElem? (i := 9) rfl)
theorem gi_MO_searches : Cond.instanceMethod y_MO_searches ∈ lk_G := lk_inG9 (List.mem_of_getElem? (i := 10) rfl)
theorem gc_MO_searches : Cond.code y_MO_searches b_MO_searches 3 (some (.int)) ∈ lk_G := lk_inG9 (List.mem_of_getElem? (i := 11) rfl)
theorem gm_MO_126 : Cond.methodLink R_MO 126 y_MO_finish ∈ lk_G := lk_inG9 (List.mem_of_getElem? (i := 12) rfl)
theorem gi_MO_finish : Cond.instanceMethod y_MO_finish ∈ lk_G := lk_inG9 (List.mem_of_getElem? (i := 13) rfl)
theorem gc_MO_finish : Cond.code y_MO_finish b_MO_finish 4 (some (.int)) ∈ lk_G := lk_inG9 (List.mem_of_getElem? (i := 14) rfl)
theorem gm_MO_98 : Cond.methodLink R_MO 98 y_MO_release ∈ lk_G := lk_inG9 (List.mem_of_getElem? (i := 15) rfl)
theorem gi_MO_release : Cond.instanceMethod y_MO_release ∈ lk_G := lk_inG9 (List.mem_of_getElem? (i := 16) rfl)
theorem gc_MO_release : Cond.code y_MO_release b_MO_release 2 none ∈ lk_G := lk_inG9 (List.mem_of_getElem? (i := 17) rfl)
theorem gm_MO_129 : Cond.methodLink R_MO 129 y_MO_isLost ∈ lk_G := lk_inG9 (List.mem_of_getElem? (i := 18) rfl)
theorem gi_MO_isLost : Cond.instanceMethod y_MO_isLost ∈ lk_G := lk_inG9 (List.mem_of_getElem? (i := 19) rfl)
theorem gc_MO_isLost : Cond.code y_MO_isLost b_MO_isLost 3 (some (.boolean)) ∈ lk_G := lk_inG9 (List.mem_of_getElem? (i := 20) rfl)
theorem gm_MO_132 : Cond.methodLink R_MO 132 y_MO_restart ∈ lk_G := lk_inG9 (List.mem_of_getElem? (i := 21) rfl)
theorem gi_MO_restart : Cond.instanceMethod y_MO_restart ∈ lk_G := lk_inG9 (List.mem_of_getElem? (i := 22) rfl)
theorem gc_MO_restart : Cond.code y_MO_restart b_MO_restart 2 (some (.int)) ∈ lk_G := lk_inG9 (List.mem_of_getElem? (i := 23) rfl)
theorem gm_MO_136 : Cond.methodLink R_MO 136 y_MO_goRight ∈ lk_G := lk_inG9 (List.mem_of_getElem? (i := 24) rfl)
theorem gi_MO_goRight : Cond.instanceMethod y_MO_goRight ∈ lk_G := lk_inG9 (List.mem_of_getElem? (i := 25) rfl)
theorem gc_MO_goRight : Cond.code y_MO_goRight b_MO_goRight 2 none ∈ lk_G := lk_inG9 (List.mem_of_getElem? (i := 26) rfl)
theorem gm_MO_87 : Cond.methodLink R_MO 87 y_MO_from ∈ lk_G := lk_inG9 (List.mem_of_getElem? (i := 27) rfl)
theorem gi_MO_from : Cond.instanceMethod y_MO_from ∈ lk_G := lk_inG9 (List.mem_of_getElem? (i := 28) rfl)
theorem gc_MO_from : Cond.code y_MO_from b_MO_from 4 (some (.int)) ∈ lk_G := lk_inG9 (List.mem_of_getElem? (i := 29) rfl)
theorem gm_MO_139 : Cond.methodLink R_MO 139 y_MO_rises ∈ lk_G := lk_inG9 (List.mem_of_getElem? (i := 30) rfl)
theorem gi_MO_rises : Cond.instanceMethod y_MO_rises ∈ lk_G := lk_inG9 (List.mem_of_getElem? (i := 31) rfl)
theorem gc_MO_rises : Cond.code y_MO_rises b_MO_rises 3 (some (.int)) ∈ lk_G := lk_inG9 (List.mem_of_getElem? (i := 32) rfl)
theorem gm_MO_146 : Cond.methodLink R_MO 146 y_MO_freePage ∈ lk_G := lk_inG9 (List.mem_of_getElem? (i := 33) rfl)
theorem gi_MO_freePage : Cond.instanceMethod y_MO_freePage ∈ lk_G := lk_inG9 (List.mem_of_getElem? (i := 34) rfl)
theorem gc_MO_freePage : Cond.code y_MO_freePage b_MO_freePage 2 (some (.int)) ∈ lk_G := lk_inG9 (List.mem_of_getElem? (i := 35) rfl)
theorem gm_MO_150 : Cond.methodLink R_MO 150 y_MO_make ∈ lk_G := lk_inG9 (List.mem_of_getElem? (i := 36) rfl)
theorem gi_MO_make : Cond.instanceMethod y_MO_make ∈ lk_G := lk_inG9 (List.mem_of_getElem? (i := 37) rfl)
theorem gc_MO_make : Cond.code y_MO_make b_MO_make 6 none ∈ lk_G := lk_inG9 (List.mem_of_getElem? (i := 38) rfl)
theorem gm_MO_154 : Cond.methodLink R_MO 154 y_MO_append ∈ lk_G := lk_inG9 (List.mem_of_getElem? (i := 39) rfl)
theorem gi_MO_append : Cond.instanceMethod y_MO_append ∈ lk_G := lk_inG10 (List.mem_of_getElem? (i := 0) rfl)
theorem gc_MO_append : Cond.code y_MO_append b_MO_append 4 none ∈ lk_G := lk_inG10 (List.mem_of_getElem? (i := 1) rfl)
theorem gm_MO_142 : Cond.methodLink R_MO 142 y_MO_has ∈ lk_G := lk_inG10 (List.mem_of_getElem? (i := 2) rfl)
theorem gi_MO_has : Cond.instanceMethod y_MO_has ∈ lk_G := lk_inG10 (List.mem_of_getElem? (i := 3) rfl)
theorem gc_MO_has : Cond.code y_MO_has b_MO_has 4 (some (.boolean)) ∈ lk_G := lk_inG10 (List.mem_of_getElem? (i := 4) rfl)
theorem gm_MO_173 : Cond.methodLink R_MO 173 y_MO_locks ∈ lk_G := lk_inG10 (List.mem_of_getElem? (i := 5) rfl)
theorem gi_MO_locks : Cond.instanceMethod y_MO_locks ∈ lk_G := lk_inG10 (List.mem_of_getElem? (i := 6) rfl)
theorem gc_MO_locks : Cond.code y_MO_locks b_MO_locks 3 (some (.int)) ∈ lk_G := lk_inG10 (List.mem_of_getElem? (i := 7) rfl)
theorem gm_MO_176 : Cond.methodLink R_MO 176 y_MO_holds ∈ lk_G := lk_inG10 (List.mem_of_getElem? (i := 8) rfl)
theorem gi_MO_holds : Cond.instanceMethod y_MO_holds ∈ lk_G := lk_inG10 (List.mem_of_getElem? (i := 9) rfl)
theorem gc_MO_holds : Cond.code y_MO_holds b_MO_holds 5 (some (.int)) ∈ lk_G := lk_inG10 (List.mem_of_getElem? (i := 10) rfl)
theorem gm_MO_158 : Cond.methodLink R_MO 158 y_MO_puts ∈ lk_G := lk_inG10 (List.mem_of_getElem? (i := 11) rfl)
theorem gi_MO_puts : Cond.instanceMethod y_MO_puts ∈ lk_G := lk_inG10 (List.mem_of_getElem? (i := 12) rfl)
theorem gc_MO_puts : Cond.code y_MO_puts b_MO_puts 5 (some (.int)) ∈ lk_G := lk_inG10 (List.mem_of_getElem? (i := 13) rfl)
theorem gm_MO_179 : Cond.methodLink R_MO 179 y_MO_insert ∈ lk_G := lk_inG10 (List.mem_of_getElem? (i := 14) rfl)
theorem gi_MO_insert : Cond.instanceMethod y_MO_insert ∈ lk_G := lk_inG10 (List.mem_of_getElem? (i := 15) rfl)
theorem gc_MO_insert : Cond.code y_MO_insert b_MO_insert 6 none ∈ lk_G := lk_inG10 (List.mem_of_getElem? (i := 16) rfl)
theorem gm_MO_183 : Cond.methodLink R_MO 183 y_MO_split ∈ lk_G := lk_inG10 (List.mem_of_getElem? (i := 17) rfl)
theorem gi_MO_split : Cond.instanceMethod y_MO_split ∈ lk_G := lk_inG10 (List.mem_of_getElem? (i := 18) rfl)
theorem gc_MO_split : Cond.code y_MO_split b_MO_split 5 none ∈ lk_G := lk_inG10 (List.mem_of_getElem? (i := 19) rfl)
theorem gm_MO_161 : Cond.methodLink R_MO 161 y_MO_posts ∈ lk_G := lk_inG10 (List.mem_of_getElem? (i := 20) rfl)
theorem gi_MO_posts : Cond.instanceMethod y_MO_posts ∈ lk_G := lk_inG10 (List.mem_of_getElem? (i := 21) rfl)
theorem gc_MO_posts : Cond.code y_MO_posts b_MO_posts 4 (some (.int)) ∈ lk_G := lk_inG10 (List.mem_of_getElem? (i := 22) rfl)
theorem gm_MO_164 : Cond.methodLink R_MO 164 y_MO_removes ∈ lk_G := lk_inG10 (List.mem_of_getElem? (i := 23) rfl)
theorem gi_MO_removes : Cond.instanceMethod y_MO_removes ∈ lk_G := lk_inG10 (List.mem_of_getElem? (i := 24) rfl)
theorem gc_MO_removes : Cond.code y_MO_removes b_MO_removes 5 (some (.int)) ∈ lk_G := lk_inG10 (List.mem_of_getElem? (i := 25) rfl)
theorem gm_MO_186 : Cond.methodLink R_MO 186 y_MO_takeOut ∈ lk_G := lk_inG10 (List.mem_of_getElem? (i := 26) rfl)
theorem gi_MO_takeOut : Cond.instanceMethod y_MO_takeOut ∈ lk_G := lk_inG10 (List.mem_of_getElem? (i := 27) rfl)
theorem gc_MO_takeOut : Cond.code y_MO_takeOut b_MO_takeOut 4 none ∈ lk_G := lk_inG10 (List.mem_of_getElem? (i := 28) rfl)
theorem gm_MO_189 : Cond.methodLink R_MO 189 y_MO_comeIntoQueue ∈ lk_G := lk_inG10 (List.mem_of_getElem? (i := 29) rfl)
theorem gi_MO_comeIntoQueue : Cond.instanceMethod y_MO_comeIntoQueue ∈ lk_G := lk_inG10 (List.mem_of_getElem? (i := 30) rfl)
theorem gc_MO_comeIntoQueue : Cond.code y_MO_comeIntoQueue b_MO_comeIntoQueue 4 none ∈ lk_G := lk_inG10 (List.mem_of_getElem? (i := 31) rfl)
theorem gm_MO_167 : Cond.methodLink R_MO 167 y_MO_joins ∈ lk_G := lk_inG10 (List.mem_of_getElem? (i := 32) rfl)
theorem gi_MO_joins : Cond.instanceMethod y_MO_joins ∈ lk_G := lk_inG10 (List.mem_of_getElem? (i := 33) rfl)
theorem gc_MO_joins : Cond.code y_MO_joins b_MO_joins 7 (some (.int)) ∈ lk_G := lk_inG10 (List.mem_of_getElem? (i := 34) rfl)
theorem gm_MO_192 : Cond.methodLink R_MO 192 y_MO_childOf ∈ lk_G := lk_inG10 (List.mem_of_getElem? (i := 35) rfl)
theorem gi_MO_childOf : Cond.instanceMethod y_MO_childOf ∈ lk_G := lk_inG10 (List.mem_of_getElem? (i := 36) rfl)
theorem gc_MO_childOf : Cond.code y_MO_childOf b_MO_childOf 4 (some (.int)) ∈ lk_G := lk_inG10 (List.mem_of_getElem? (i := 37) rfl)
theorem gm_MO_195 : Cond.methodLink R_MO 195 y_MO_balance ∈ lk_G := lk_inG10 (List.mem_of_getElem? (i := 38) rfl)
theorem gi_MO_balance : Cond.instanceMethod y_MO_balance ∈ lk_G := lk_inG10 (List.mem_of_getElem? (i := 39) rfl)
theorem gc_MO_balance : Cond.code y_MO_balance b_MO_balance 5 none ∈ lk_G := lk_inG11 (List.mem_of_getElem? (i := 0) rfl)
theorem gm_MO_198 : Cond.methodLink R_MO 198 y_MO_die ∈ lk_G := lk_inG11 (List.mem_of_getElem? (i := 1) rfl)
theorem gi_MO_die : Cond.instanceMethod y_MO_die ∈ lk_G := lk_inG11 (List.mem_of_getElem? (i := 2) rfl)
theorem gc_MO_die : Cond.code y_MO_die b_MO_die 4 none ∈ lk_G := lk_inG11 (List.mem_of_getElem? (i := 3) rfl)
theorem gm_MO_201 : Cond.methodLink R_MO 201 y_MO_shrinks ∈ lk_G := lk_inG11 (List.mem_of_getElem? (i := 4) rfl)
theorem gi_MO_shrinks : Cond.instanceMethod y_MO_shrinks ∈ lk_G := lk_inG11 (List.mem_of_getElem? (i := 5) rfl)
theorem gc_MO_shrinks : Cond.code y_MO_shrinks b_MO_shrinks 3 none ∈ lk_G := lk_inG11 (List.mem_of_getElem? (i := 6) rfl)
theorem gm_LW_60 : Cond.methodLink R_LW 60 y_MO_answer ∈ lk_G := lk_inG11 (List.mem_of_getElem? (i := 7) rfl)
theorem gi_MO_answer : Cond.instanceMethod y_MO_answer ∈ lk_G := lk_inG11 (List.mem_of_getElem? (i := 8) rfl)
theorem gs_MO_answer : Cond.selects R_MO y_MO_answer y_MO_answer ∈ lk_G := lk_inG11 (List.mem_of_getElem? (i := 9) rfl)
theorem gc_MO_answer : Cond.code y_MO_answer b_MO_answer 2 (some (.int)) ∈ lk_G := lk_inG11 (List.mem_of_getElem? (i := 10) rfl)
theorem gm_LW_64 : Cond.methodLink R_LW 64 y_MO_look ∈ lk_G := lk_inG11 (List.mem_of_getElem? (i := 11) rfl)
theorem gi_MO_look : Cond.instanceMethod y_MO_look ∈ lk_G := lk_inG11 (List.mem_of_getElem? (i := 12) rfl)
theorem gs_MO_look : Cond.selects R_MO y_MO_look y_MO_look ∈ lk_G := lk_inG11 (List.mem_of_getElem? (i := 13) rfl)
theorem gc_MO_look : Cond.code y_MO_look b_MO_look 3 (some (.int)) ∈ lk_G := lk_inG11 (List.mem_of_getElem? (i := 14) rfl)
theorem gm_LW_67 : Cond.methodLink R_LW 67 y_MO_page ∈ lk_G := lk_inG11 (List.mem_of_getElem? (i := 15) rfl)
theorem gi_MO_page : Cond.instanceMethod y_MO_page ∈ lk_G := lk_inG11 (List.mem_of_getElem? (i := 16) rfl)
theorem gs_MO_page : Cond.selects R_MO y_MO_page y_MO_page ∈ lk_G := lk_inG11 (List.mem_of_getElem? (i := 17) rfl)
theorem gc_MO_page : Cond.code y_MO_page b_MO_page 3 (some (.int)) ∈ lk_G := lk_inG11 (List.mem_of_getElem? (i := 18) rfl)
theorem gm_LW_71 : Cond.methodLink R_LW 71 y_MO_entry ∈ lk_G := lk_inG11 (List.mem_of_getElem? (i := 19) rfl)
theorem gi_MO_entry : Cond.instanceMethod y_MO_entry ∈ lk_G := lk_inG11 (List.mem_of_getElem? (i := 20) rfl)
theorem gs_MO_entry : Cond.selects R_MO y_MO_entry y_MO_entry ∈ lk_G := lk_inG11 (List.mem_of_getElem? (i := 21) rfl)
theorem gc_MO_entry : Cond.code y_MO_entry b_MO_entry 4 (some (.int)) ∈ lk_G := lk_inG11 (List.mem_of_getElem? (i := 22) rfl)
theorem gm_MO_204 : Cond.methodLink R_MO 204 y_MO_isNode ∈ lk_G := lk_inG11 (List.mem_of_getElem? (i := 23) rfl)
theorem gi_MO_isNode : Cond.instanceMethod y_MO_isNode ∈ lk_G := lk_inG11 (List.mem_of_getElem? (i := 24) rfl)
theorem gc_MO_isNode : Cond.code y_MO_isNode b_MO_isNode 2 (some (.boolean)) ∈ lk_G := lk_inG11 (List.mem_of_getElem? (i := 25) rfl)
theorem gm_LW_75 : Cond.methodLink R_LW 75 y_MO_root ∈ lk_G := lk_inG11 (List.mem_of_getElem? (i := 26) rfl)
theorem gi_MO_root : Cond.instanceMethod y_MO_root ∈ lk_G := lk_inG11 (List.mem_of_getElem? (i := 27) rfl)
theorem gs_MO_root : Cond.selects R_MO y_MO_root y_MO_root ∈ lk_G := lk_inG11 (List.mem_of_getElem? (i := 28) rfl)
theorem gc_MO_root : Cond.code y_MO_root b_MO_root 1 (some (.int)) ∈ lk_G := lk_inG11 (List.mem_of_getElem? (i := 29) rfl)
theorem gm_LW_79 : Cond.methodLink R_LW 79 y_MO_queued ∈ lk_G := lk_inG11 (List.mem_of_getElem? (i := 30) rfl)
theorem gi_MO_queued : Cond.instanceMethod y_MO_queued ∈ lk_G := lk_inG11 (List.mem_of_getElem? (i := 31) rfl)
theorem gs_MO_queued : Cond.selects R_MO y_MO_queued y_MO_queued ∈ lk_G := lk_inG11 (List.mem_of_getElem? (i := 32) rfl)
theorem gc_MO_queued : Cond.code y_MO_queued b_MO_queued 1 (some (.int)) ∈ lk_G := lk_inG11 (List.mem_of_getElem? (i := 33) rfl)
theorem gm_LW_82 : Cond.methodLink R_LW 82 y_MO_under ∈ lk_G := lk_inG11 (List.mem_of_getElem? (i := 34) rfl)
theorem gi_MO_under : Cond.instanceMethod y_MO_under ∈ lk_G := lk_inG11 (List.mem_of_getElem? (i := 35) rfl)
theorem gs_MO_under : Cond.selects R_MO y_MO_under y_MO_under ∈ lk_G := lk_inG11 (List.mem_of_getElem? (i := 36) rfl)
theorem gc_MO_under : Cond.code y_MO_under b_MO_under 6 (some (.int)) ∈ lk_G := lk_inG11 (List.mem_of_getElem? (i := 37) rfl)
theorem gA_long : Cond.arrayClass .long ∈ lk_G := lk_inG11 (List.mem_of_getElem? (i := 38) rfl)
theorem gs_LT_chooseSmallPage : Cond.selects R_LT y_LT_chooseSmallPage y_LT_chooseSmallPage ∈ lk_G := lk_inG11 (List.mem_of_getElem? (i := 39) rfl)
theorem gs_LT_nodeAt : Cond.selects R_LT y_LT_nodeAt y_LT_nodeAt ∈ lk_G := lk_inG12 (List.mem_of_getElem? (i := 0) rfl)
theorem gs_LT_advance : Cond.selects R_LT y_LT_advance y_LT_advance ∈ lk_G := lk_inG12 (List.mem_of_getElem? (i := 1) rfl)
theorem gs_LT_finish : Cond.selects R_LT y_LT_finish y_LT_finish ∈ lk_G := lk_inG12 (List.mem_of_getElem? (i := 2) rfl)
theorem gs_LT_search : Cond.selects R_LT y_LT_search y_LT_search ∈ lk_G := lk_inG12 (List.mem_of_getElem? (i := 3) rfl)
theorem gs_LT_restart : Cond.selects R_LT y_LT_restart y_LT_restart ∈ lk_G := lk_inG12 (List.mem_of_getElem? (i := 4) rfl)
theorem gs_LT_goRight : Cond.selects R_LT y_LT_goRight y_LT_goRight ∈ lk_G := lk_inG12 (List.mem_of_getElem? (i := 5) rfl)
theorem gs_LT_searchBelowWanted : Cond.selects R_LT y_LT_searchBelowWanted y_LT_searchBelowWanted ∈ lk_G := lk_inG12 (List.mem_of_getElem? (i := 6) rfl)
theorem gs_LT_leastFreeNode : Cond.selects R_LT y_LT_leastFreeNode y_LT_leastFreeNode ∈ lk_G := lk_inG12 (List.mem_of_getElem? (i := 7) rfl)
theorem gs_LT_lock : Cond.selects R_LT y_LT_lock y_LT_lock ∈ lk_G := lk_inG12 (List.mem_of_getElem? (i := 8) rfl)
theorem gs_LT_hold : Cond.selects R_LT y_LT_hold y_LT_hold ∈ lk_G := lk_inG12 (List.mem_of_getElem? (i := 9) rfl)
theorem gs_LT_put : Cond.selects R_LT y_LT_put y_LT_put ∈ lk_G := lk_inG12 (List.mem_of_getElem? (i := 10) rfl)
theorem gs_LT_split : Cond.selects R_LT y_LT_split y_LT_split ∈ lk_G := lk_inG12 (List.mem_of_getElem? (i := 11) rfl)
theorem gs_LT_remove : Cond.selects R_LT y_LT_remove y_LT_remove ∈ lk_G := lk_inG12 (List.mem_of_getElem? (i := 12) rfl)
theorem gs_SP_has : Cond.selects R_SP y_SP_has y_SP_has ∈ lk_G := lk_inG12 (List.mem_of_getElem? (i := 13) rfl)
theorem gs_LT_join : Cond.selects R_LT y_LT_join y_LT_join ∈ lk_G := lk_inG12 (List.mem_of_getElem? (i := 14) rfl)
theorem gs_ND_moveFirstOf : Cond.selects R_ND y_ND_moveFirstOf y_ND_moveFirstOf ∈ lk_G := lk_inG12 (List.mem_of_getElem? (i := 15) rfl)
theorem gs_LT_die : Cond.selects R_LT y_LT_die y_LT_die ∈ lk_G := lk_inG12 (List.mem_of_getElem? (i := 16) rfl)
theorem gs_ND_moveLastTo : Cond.selects R_ND y_ND_moveLastTo y_ND_moveLastTo ∈ lk_G := lk_inG12 (List.mem_of_getElem? (i := 17) rfl)
theorem gs_LT_lowerOrQueue : Cond.selects R_LT y_LT_lowerOrQueue y_LT_lowerOrQueue ∈ lk_G := lk_inG12 (List.mem_of_getElem? (i := 18) rfl)
theorem gs_LT_post : Cond.selects R_LT y_LT_post y_LT_post ∈ lk_G := lk_inG12 (List.mem_of_getElem? (i := 19) rfl)
theorem gs_LT_leafEntries : Cond.selects R_LT y_LT_leafEntries y_LT_leafEntries ∈ lk_G := lk_inG12 (List.mem_of_getElem? (i := 20) rfl)
theorem gs_MO_isTask : Cond.selects R_MO y_MO_isTask y_MO_isTask ∈ lk_G := lk_inG12 (List.mem_of_getElem? (i := 21) rfl)
theorem gs_MO_fails : Cond.selects R_MO y_MO_fails y_MO_fails ∈ lk_G := lk_inG12 (List.mem_of_getElem? (i := 22) rfl)
theorem gs_MO_forgetPath : Cond.selects R_MO y_MO_forgetPath y_MO_forgetPath ∈ lk_G := lk_inG12 (List.mem_of_getElem? (i := 23) rfl)
theorem gs_MO_search : Cond.selects R_MO y_MO_search y_MO_search ∈ lk_G := lk_inG12 (List.mem_of_getElem? (i := 24) rfl)
theorem gs_MO_beginJoin : Cond.selects R_MO y_MO_beginJoin y_MO_beginJoin ∈ lk_G := lk_inG12 (List.mem_of_getElem? (i := 25) rfl)
theorem gs_MO_leaveQueue : Cond.selects R_MO y_MO_leaveQueue y_MO_leaveQueue ∈ lk_G := lk_inG12 (List.mem_of_getElem? (i := 26) rfl)
theorem gs_MO_searches : Cond.selects R_MO y_MO_searches y_MO_searches ∈ lk_G := lk_inG12 (List.mem_of_getElem? (i := 27) rfl)
theorem gs_MO_finish : Cond.selects R_MO y_MO_finish y_MO_finish ∈ lk_G := lk_inG12 (List.mem_of_getElem? (i := 28) rfl)
theorem gs_MO_release : Cond.selects R_MO y_MO_release y_MO_release ∈ lk_G := lk_inG12 (List.mem_of_getElem? (i := 29) rfl)
theorem gs_MO_isLost : Cond.selects R_MO y_MO_isLost y_MO_isLost ∈ lk_G := lk_inG12 (List.mem_of_getElem? (i := 30) rfl)
theorem gs_MO_restart : Cond.selects R_MO y_MO_restart y_MO_restart ∈ lk_G := lk_inG12 (List.mem_of_getElem? (i := 31) rfl)
theorem gs_MO_goRight : Cond.selects R_MO y_MO_goRight y_MO_goRight ∈ lk_G := lk_inG12 (List.mem_of_getElem? (i := 32) rfl)
theorem gs_MO_from : Cond.selects R_MO y_MO_from y_MO_from ∈ lk_G := lk_inG12 (List.mem_of_getElem? (i := 33) rfl)
theorem gs_MO_rises : Cond.selects R_MO y_MO_rises y_MO_rises ∈ lk_G := lk_inG12 (List.mem_of_getElem? (i := 34) rfl)
theorem gs_MO_freePage : Cond.selects R_MO y_MO_freePage y_MO_freePage ∈ lk_G := lk_inG12 (List.mem_of_getElem? (i := 35) rfl)
theorem gs_MO_make : Cond.selects R_MO y_MO_make y_MO_make ∈ lk_G := lk_inG12 (List.mem_of_getElem? (i := 36) rfl)
theorem gs_MO_append : Cond.selects R_MO y_MO_append y_MO_append ∈ lk_G := lk_inG12 (List.mem_of_getElem? (i := 37) rfl)
theorem gs_MO_has : Cond.selects R_MO y_MO_has y_MO_has ∈ lk_G := lk_inG12 (List.mem_of_getElem? (i := 38) rfl)
theorem gs_MO_locks : Cond.selects R_MO y_MO_locks y_MO_locks ∈ lk_G := lk_inG12 (List.mem_of_getElem? (i := 39) rfl)
theorem gs_MO_holds : Cond.selects R_MO y_MO_holds y_MO_holds ∈ lk_G := lk_inG13 (List.mem_of_getElem? (i := 0) rfl)
theorem gs_MO_puts : Cond.selects R_MO y_MO_puts y_MO_puts ∈ lk_G := lk_inG13 (List.mem_of_getElem? (i := 1) rfl)
theorem gs_MO_insert : Cond.selects R_MO y_MO_insert y_MO_insert ∈ lk_G := lk_inG13 (List.mem_of_getElem? (i := 2) rfl)
theorem gs_MO_split : Cond.selects R_MO y_MO_split y_MO_split ∈ lk_G := lk_inG13 (List.mem_of_getElem? (i := 3) rfl)
theorem gs_MO_posts : Cond.selects R_MO y_MO_posts y_MO_posts ∈ lk_G := lk_inG13 (List.mem_of_getElem? (i := 4) rfl)
theorem gs_MO_removes : Cond.selects R_MO y_MO_removes y_MO_removes ∈ lk_G := lk_inG13 (List.mem_of_getElem? (i := 5) rfl)
theorem gs_MO_takeOut : Cond.selects R_MO y_MO_takeOut y_MO_takeOut ∈ lk_G := lk_inG13 (List.mem_of_getElem? (i := 6) rfl)
theorem gs_MO_comeIntoQueue : Cond.selects R_MO y_MO_comeIntoQueue y_MO_comeIntoQueue ∈ lk_G := lk_inG13 (List.mem_of_getElem? (i := 7) rfl)
theorem gs_MO_joins : Cond.selects R_MO y_MO_joins y_MO_joins ∈ lk_G := lk_inG13 (List.mem_of_getElem? (i := 8) rfl)
theorem gs_MO_childOf : Cond.selects R_MO y_MO_childOf y_MO_childOf ∈ lk_G := lk_inG13 (List.mem_of_getElem? (i := 9) rfl)
theorem gs_MO_balance : Cond.selects R_MO y_MO_balance y_MO_balance ∈ lk_G := lk_inG13 (List.mem_of_getElem? (i := 10) rfl)
theorem gs_MO_die : Cond.selects R_MO y_MO_die y_MO_die ∈ lk_G := lk_inG13 (List.mem_of_getElem? (i := 11) rfl)
theorem gs_MO_shrinks : Cond.selects R_MO y_MO_shrinks y_MO_shrinks ∈ lk_G := lk_inG13 (List.mem_of_getElem? (i := 12) rfl)
theorem gs_MO_isNode : Cond.selects R_MO y_MO_isNode y_MO_isNode ∈ lk_G := lk_inG13 (List.mem_of_getElem? (i := 13) rfl)
theorem lk_okG0 : lk_G0.all goodWord = true := by decide +kernel
theorem lk_okG1 : lk_G1.all goodWord = true := by decide +kernel
theorem lk_okG2 : lk_G2.all goodWord = true := by decide +kernel
theorem lk_okG3 : lk_G3.all goodWord = true := by decide +kernel
theorem lk_okG4 : lk_G4.all goodWord = true := by decide +kernel
theorem lk_okG5 : lk_G5.all goodWord = true := by decide +kernel
theorem lk_okG6 : lk_G6.all goodWord = true := by decide +kernel
theorem lk_okG7 : lk_G7.all goodWord = true := by decide +kernel
theorem lk_okG8 : lk_G8.all goodWord = true := by decide +kernel
theorem lk_okG9 : lk_G9.all goodWord = true := by decide +kernel
theorem lk_okG10 : lk_G10.all goodWord = true := by decide +kernel
theorem lk_okG11 : lk_G11.all goodWord = true := by decide +kernel
theorem lk_okG12 : lk_G12.all goodWord = true := by decide +kernel
theorem lk_okG13 : lk_G13.all goodWord = true := by decide +kernel
theorem lk_okLLT : (u_ws R_LT T_LT 5).all goodWord = true := by decide +kernel
theorem lk_okLND : (u_ws R_ND T_ND 11).all goodWord = true := by decide +kernel
theorem lk_okLTA : (u_ws R_TA T_TA 16).all goodWord = true := by decide +kernel
theorem lk_okLSP : (u_ws R_SP T_SP 2).all goodWord = true := by decide +kernel
theorem lk_okLMO : (u_ws R_MO T_MO 27).all goodWord = true := by decide +kernel
theorem lk_okG : ∀ w ∈ lk_G, goodWord w = true := List.forall_mem_append.mpr ⟨List.all_eq_true.mp lk_okG0, List.forall_mem_append.mpr ⟨List.all_eq_true.mp lk_okG1, List.forall_mem_append.mpr ⟨List.all_eq_true.mp lk_okG2, List.forall_mem_append.mpr ⟨List.all_eq_true.mp lk_okG3, List.forall_mem_append.mpr ⟨List.all_eq_true.mp lk_okG4, List.forall_mem_append.mpr ⟨List.all_eq_true.mp lk_okG5, List.forall_mem_append.mpr ⟨List.all_eq_true.mp lk_okG6, List.forall_mem_append.mpr ⟨List.all_eq_true.mp lk_okG7, List.forall_mem_append.mpr ⟨List.all_eq_true.mp lk_okG8, List.forall_mem_append.mpr ⟨List.all_eq_true.mp lk_okG9, List.forall_mem_append.mpr ⟨List.all_eq_true.mp lk_okG10, List.forall_mem_append.mpr ⟨List.all_eq_true.mp lk_okG11, List.forall_mem_append.mpr ⟨List.all_eq_true.mp lk_okG12, List.forall_mem_append.mpr ⟨List.all_eq_true.mp lk_okG13, List.forall_mem_append.mpr ⟨List.all_eq_true.mp lk_okLLT, List.forall_mem_append.mpr ⟨List.all_eq_true.mp lk_okLND, List.forall_mem_append.mpr ⟨List.all_eq_true.mp lk_okLTA, List.forall_mem_append.mpr ⟨List.all_eq_true.mp lk_okLSP, List.all_eq_true.mp lk_okLMO⟩⟩⟩⟩⟩⟩⟩⟩⟩⟩⟩⟩⟩⟩⟩⟩⟩⟩
theorem lk_gin {big : List Cond} {c : Cond} (h : ∀ w ∈ lk_G, w ∈ big) (hc : c ∈ lk_G) : GoodIn big (c :: lk_G) := fun w hw => (List.mem_cons.mp hw).elim (fun e => by rw [e]; exact ⟨h _ hc, good_of_word (lk_okG _ hc)⟩) (fun hw => ⟨h w hw, good_of_word (lk_okG w hw)⟩)
theorem gd_LT_init : y_LT_init.cls ≠ "java/lang/invoke/MethodHandle" ∧ y_LT_init.cls ≠ "java/lang/invoke/VarHandle" ∧ (parseMethodDescriptor y_LT_init.desc).map (fun d => d.parameters.length) = some 0 := by decide +kernel
theorem gd_ND_init : y_ND_init.cls ≠ "java/lang/invoke/MethodHandle" ∧ y_ND_init.cls ≠ "java/lang/invoke/VarHandle" ∧ (parseMethodDescriptor y_ND_init.desc).map (fun d => d.parameters.length) = some 1 := by decide +kernel
theorem gd_TA_init : y_TA_init.cls ≠ "java/lang/invoke/MethodHandle" ∧ y_TA_init.cls ≠ "java/lang/invoke/VarHandle" ∧ (parseMethodDescriptor y_TA_init.desc).map (fun d => d.parameters.length) = some 1 := by decide +kernel
theorem gd_SP_init : y_SP_init.cls ≠ "java/lang/invoke/MethodHandle" ∧ y_SP_init.cls ≠ "java/lang/invoke/VarHandle" ∧ (parseMethodDescriptor y_SP_init.desc).map (fun d => d.parameters.length) = some 0 := by decide +kernel
theorem gd_ND_become : y_ND_become.cls ≠ "java/lang/invoke/MethodHandle" ∧ y_ND_become.cls ≠ "java/lang/invoke/VarHandle" ∧ (parseMethodDescriptor y_ND_become.desc).map (fun d => d.parameters.length) = some 4 := by decide +kernel
theorem gd_LT_root : y_LT_root.cls ≠ "java/lang/invoke/MethodHandle" ∧ y_LT_root.cls ≠ "java/lang/invoke/VarHandle" ∧ (parseMethodDescriptor y_LT_root.desc).map (fun d => d.parameters.length) = some 0 := by decide +kernel
theorem gd_LT_queued : y_LT_queued.cls ≠ "java/lang/invoke/MethodHandle" ∧ y_LT_queued.cls ≠ "java/lang/invoke/VarHandle" ∧ (parseMethodDescriptor y_LT_queued.desc).map (fun d => d.parameters.length) = some 0 := by decide +kernel
theorem gd_LW_begin : y_LW_begin.cls ≠ "java/lang/invoke/MethodHandle" ∧ y_LW_begin.cls ≠ "java/lang/invoke/VarHandle" ∧ (parseMethodDescriptor y_LW_begin.desc).map (fun d => d.parameters.length) = some 5 := by decide +kernel
theorem gd_LT_begin : y_LT_begin.cls ≠ "java/lang/invoke/MethodHandle" ∧ y_LT_begin.cls ≠ "java/lang/invoke/VarHandle" ∧ (parseMethodDescriptor y_LT_begin.desc).map (fun d => d.parameters.length) = some 4 := by decide +kernel
theorem gd_LT_isTask : y_LT_isTask.cls ≠ "java/lang/invoke/MethodHandle" ∧ y_LT_isTask.cls ≠ "java/lang/invoke/VarHandle" ∧ (parseMethodDescriptor y_LT_isTask.desc).map (fun d => d.parameters.length) = some 1 := by decide +kernel
theorem gd_TA_searchAnew : y_TA_searchAnew.cls ≠ "java/lang/invoke/MethodHandle" ∧ y_TA_searchAnew.cls ≠ "java/lang/invoke/VarHandle" ∧ (parseMethodDescriptor y_TA_searchAnew.desc).map (fun d => d.parameters.length) = some 1 := by decide +kernel
theorem gd_LT_chooseSmallPage : y_LT_chooseSmallPage.cls ≠ "java/lang/invoke/MethodHandle" ∧ y_LT_chooseSmallPage.cls ≠ "java/lang/invoke/VarHandle" ∧ (parseMethodDescriptor y_LT_chooseSmallPage.desc).map (fun d => d.parameters.length) = some 1 := by decide +kernel
theorem gd_SP_takeFirst : y_SP_takeFirst.cls ≠ "java/lang/invoke/MethodHandle" ∧ y_SP_takeFirst.cls ≠ "java/lang/invoke/VarHandle" ∧ (parseMethodDescriptor y_SP_takeFirst.desc).map (fun d => d.parameters.length) = some 0 := by decide +kernel
theorem gd_SP_drop : y_SP_drop.cls ≠ "java/lang/invoke/MethodHandle" ∧ y_SP_drop.cls ≠ "java/lang/invoke/VarHandle" ∧ (parseMethodDescriptor y_SP_drop.desc).map (fun d => d.parameters.length) = some 1 := by decide +kernel
theorem gd_LT_nodeAt : y_LT_nodeAt.cls ≠ "java/lang/invoke/MethodHandle" ∧ y_LT_nodeAt.cls ≠ "java/lang/invoke/VarHandle" ∧ (parseMethodDescriptor y_LT_nodeAt.desc).map (fun d => d.parameters.length) = some 1 := by decide +kernel
theorem gd_LT_isPage : y_LT_isPage.cls ≠ "java/lang/invoke/MethodHandle" ∧ y_LT_isPage.cls ≠ "java/lang/invoke/VarHandle" ∧ (parseMethodDescriptor y_LT_isPage.desc).map (fun d => d.parameters.length) = some 1 := by decide +kernel
theorem gd_LW_step : y_LW_step.cls ≠ "java/lang/invoke/MethodHandle" ∧ y_LW_step.cls ≠ "java/lang/invoke/VarHandle" ∧ (parseMethodDescriptor y_LW_step.desc).map (fun d => d.parameters.length) = some 3 := by decide +kernel
theorem gd_LT_step : y_LT_step.cls ≠ "java/lang/invoke/MethodHandle" ∧ y_LT_step.cls ≠ "java/lang/invoke/VarHandle" ∧ (parseMethodDescriptor y_LT_step.desc).map (fun d => d.parameters.length) = some 1 := by decide +kernel
theorem gd_LT_advance : y_LT_advance.cls ≠ "java/lang/invoke/MethodHandle" ∧ y_LT_advance.cls ≠ "java/lang/invoke/VarHandle" ∧ (parseMethodDescriptor y_LT_advance.desc).map (fun d => d.parameters.length) = some 1 := by decide +kernel
theorem gd_LT_finish : y_LT_finish.cls ≠ "java/lang/invoke/MethodHandle" ∧ y_LT_finish.cls ≠ "java/lang/invoke/VarHandle" ∧ (parseMethodDescriptor y_LT_finish.desc).map (fun d => d.parameters.length) = some 2 := by decide +kernel
theorem gd_ND_awaitNoMore : y_ND_awaitNoMore.cls ≠ "java/lang/invoke/MethodHandle" ∧ y_ND_awaitNoMore.cls ≠ "java/lang/invoke/VarHandle" ∧ (parseMethodDescriptor y_ND_awaitNoMore.desc).map (fun d => d.parameters.length) = some 1 := by decide +kernel
theorem gd_ND_dieUntil : y_ND_dieUntil.cls ≠ "java/lang/invoke/MethodHandle" ∧ y_ND_dieUntil.cls ≠ "java/lang/invoke/VarHandle" ∧ (parseMethodDescriptor y_ND_dieUntil.desc).map (fun d => d.parameters.length) = some 1 := by decide +kernel
theorem gd_LT_search : y_LT_search.cls ≠ "java/lang/invoke/MethodHandle" ∧ y_LT_search.cls ≠ "java/lang/invoke/VarHandle" ∧ (parseMethodDescriptor y_LT_search.desc).map (fun d => d.parameters.length) = some 2 := by decide +kernel
theorem gd_ND_isWrongFor : y_ND_isWrongFor.cls ≠ "java/lang/invoke/MethodHandle" ∧ y_ND_isWrongFor.cls ≠ "java/lang/invoke/VarHandle" ∧ (parseMethodDescriptor y_ND_isWrongFor.desc).map (fun d => d.parameters.length) = some 1 := by decide +kernel
theorem gd_LT_restart : y_LT_restart.cls ≠ "java/lang/invoke/MethodHandle" ∧ y_LT_restart.cls ≠ "java/lang/invoke/VarHandle" ∧ (parseMethodDescriptor y_LT_restart.desc).map (fun d => d.parameters.length) = some 1 := by decide +kernel
theorem gd_LT_goRight : y_LT_goRight.cls ≠ "java/lang/invoke/MethodHandle" ∧ y_LT_goRight.cls ≠ "java/lang/invoke/VarHandle" ∧ (parseMethodDescriptor y_LT_goRight.desc).map (fun d => d.parameters.length) = some 2 := by decide +kernel
theorem gd_TA_note : y_TA_note.cls ≠ "java/lang/invoke/MethodHandle" ∧ y_TA_note.cls ≠ "java/lang/invoke/VarHandle" ∧ (parseMethodDescriptor y_TA_note.desc).map (fun d => d.parameters.length) = some 2 := by decide +kernel
theorem gd_ND_childFor : y_ND_childFor.cls ≠ "java/lang/invoke/MethodHandle" ∧ y_ND_childFor.cls ≠ "java/lang/invoke/VarHandle" ∧ (parseMethodDescriptor y_ND_childFor.desc).map (fun d => d.parameters.length) = some 1 := by decide +kernel
theorem gd_ND_firstNotBelow : y_ND_firstNotBelow.cls ≠ "java/lang/invoke/MethodHandle" ∧ y_ND_firstNotBelow.cls ≠ "java/lang/invoke/VarHandle" ∧ (parseMethodDescriptor y_ND_firstNotBelow.desc).map (fun d => d.parameters.length) = some 1 := by decide +kernel
theorem gd_LT_searchBelowWanted : y_LT_searchBelowWanted.cls ≠ "java/lang/invoke/MethodHandle" ∧ y_LT_searchBelowWanted.cls ≠ "java/lang/invoke/VarHandle" ∧ (parseMethodDescriptor y_LT_searchBelowWanted.desc).map (fun d => d.parameters.length) = some 1 := by decide +kernel
theorem gd_LT_leastFreeNode : y_LT_leastFreeNode.cls ≠ "java/lang/invoke/MethodHandle" ∧ y_LT_leastFreeNode.cls ≠ "java/lang/invoke/VarHandle" ∧ (parseMethodDescriptor y_LT_leastFreeNode.desc).map (fun d => d.parameters.length) = some 0 := by decide +kernel
theorem gd_ND_insert : y_ND_insert.cls ≠ "java/lang/invoke/MethodHandle" ∧ y_ND_insert.cls ≠ "java/lang/invoke/VarHandle" ∧ (parseMethodDescriptor y_ND_insert.desc).map (fun d => d.parameters.length) = some 3 := by decide +kernel
theorem gd_ND_valueOf : y_ND_valueOf.cls ≠ "java/lang/invoke/MethodHandle" ∧ y_ND_valueOf.cls ≠ "java/lang/invoke/VarHandle" ∧ (parseMethodDescriptor y_ND_valueOf.desc).map (fun d => d.parameters.length) = some 1 := by decide +kernel
theorem gd_ND_hasKeyAt : y_ND_hasKeyAt.cls ≠ "java/lang/invoke/MethodHandle" ∧ y_ND_hasKeyAt.cls ≠ "java/lang/invoke/VarHandle" ∧ (parseMethodDescriptor y_ND_hasKeyAt.desc).map (fun d => d.parameters.length) = some 2 := by decide +kernel
theorem gd_LT_lock : y_LT_lock.cls ≠ "java/lang/invoke/MethodHandle" ∧ y_LT_lock.cls ≠ "java/lang/invoke/VarHandle" ∧ (parseMethodDescriptor y_LT_lock.desc).map (fun d => d.parameters.length) = some 2 := by decide +kernel
theorem gd_LT_hold : y_LT_hold.cls ≠ "java/lang/invoke/MethodHandle" ∧ y_LT_hold.cls ≠ "java/lang/invoke/VarHandle" ∧ (parseMethodDescriptor y_LT_hold.desc).map (fun d => d.parameters.length) = some 2 := by decide +kernel
theorem gd_LT_put : y_LT_put.cls ≠ "java/lang/invoke/MethodHandle" ∧ y_LT_put.cls ≠ "java/lang/invoke/VarHandle" ∧ (parseMethodDescriptor y_LT_put.desc).map (fun d => d.parameters.length) = some 2 := by decide +kernel
theorem gd_LT_split : y_LT_split.cls ≠ "java/lang/invoke/MethodHandle" ∧ y_LT_split.cls ≠ "java/lang/invoke/VarHandle" ∧ (parseMethodDescriptor y_LT_split.desc).map (fun d => d.parameters.length) = some 3 := by decide +kernel
theorem gd_TA_notedAt : y_TA_notedAt.cls ≠ "java/lang/invoke/MethodHandle" ∧ y_TA_notedAt.cls ≠ "java/lang/invoke/VarHandle" ∧ (parseMethodDescriptor y_TA_notedAt.desc).map (fun d => d.parameters.length) = some 1 := by decide +kernel
theorem gd_LT_remove : y_LT_remove.cls ≠ "java/lang/invoke/MethodHandle" ∧ y_LT_remove.cls ≠ "java/lang/invoke/VarHandle" ∧ (parseMethodDescriptor y_LT_remove.desc).map (fun d => d.parameters.length) = some 2 := by decide +kernel
theorem gd_ND_delete : y_ND_delete.cls ≠ "java/lang/invoke/MethodHandle" ∧ y_ND_delete.cls ≠ "java/lang/invoke/VarHandle" ∧ (parseMethodDescriptor y_ND_delete.desc).map (fun d => d.parameters.length) = some 1 := by decide +kernel
theorem gd_SP_add : y_SP_add.cls ≠ "java/lang/invoke/MethodHandle" ∧ y_SP_add.cls ≠ "java/lang/invoke/VarHandle" ∧ (parseMethodDescriptor y_SP_add.desc).map (fun d => d.parameters.length) = some 1 := by decide +kernel
theorem gd_SP_has : y_SP_has.cls ≠ "java/lang/invoke/MethodHandle" ∧ y_SP_has.cls ≠ "java/lang/invoke/VarHandle" ∧ (parseMethodDescriptor y_SP_has.desc).map (fun d => d.parameters.length) = some 1 := by decide +kernel
theorem gd_LT_join : y_LT_join.cls ≠ "java/lang/invoke/MethodHandle" ∧ y_LT_join.cls ≠ "java/lang/invoke/VarHandle" ∧ (parseMethodDescriptor y_LT_join.desc).map (fun d => d.parameters.length) = some 2 := by decide +kernel
theorem gd_ND_entryOfChild : y_ND_entryOfChild.cls ≠ "java/lang/invoke/MethodHandle" ∧ y_ND_entryOfChild.cls ≠ "java/lang/invoke/VarHandle" ∧ (parseMethodDescriptor y_ND_entryOfChild.desc).map (fun d => d.parameters.length) = some 1 := by decide +kernel
theorem gd_ND_takeAllOf : y_ND_takeAllOf.cls ≠ "java/lang/invoke/MethodHandle" ∧ y_ND_takeAllOf.cls ≠ "java/lang/invoke/VarHandle" ∧ (parseMethodDescriptor y_ND_takeAllOf.desc).map (fun d => d.parameters.length) = some 1 := by decide +kernel
theorem gd_ND_moveFirstOf : y_ND_moveFirstOf.cls ≠ "java/lang/invoke/MethodHandle" ∧ y_ND_moveFirstOf.cls ≠ "java/lang/invoke/VarHandle" ∧ (parseMethodDescriptor y_ND_moveFirstOf.desc).map (fun d => d.parameters.length) = some 2 := by decide +kernel
theorem gd_LT_die : y_LT_die.cls ≠ "java/lang/invoke/MethodHandle" ∧ y_LT_die.cls ≠ "java/lang/invoke/VarHandle" ∧ (parseMethodDescriptor y_LT_die.desc).map (fun d => d.parameters.length) = some 2 := by decide +kernel
theorem gd_ND_shareWith : y_ND_shareWith.cls ≠ "java/lang/invoke/MethodHandle" ∧ y_ND_shareWith.cls ≠ "java/lang/invoke/VarHandle" ∧ (parseMethodDescriptor y_ND_shareWith.desc).map (fun d => d.parameters.length) = some 1 := by decide +kernel
theorem gd_ND_moveLastTo : y_ND_moveLastTo.cls ≠ "java/lang/invoke/MethodHandle" ∧ y_ND_moveLastTo.cls ≠ "java/lang/invoke/VarHandle" ∧ (parseMethodDescriptor y_ND_moveLastTo.desc).map (fun d => d.parameters.length) = some 2 := by decide +kernel
theorem gd_LT_lowerOrQueue : y_LT_lowerOrQueue.cls ≠ "java/lang/invoke/MethodHandle" ∧ y_LT_lowerOrQueue.cls ≠ "java/lang/invoke/VarHandle" ∧ (parseMethodDescriptor y_LT_lowerOrQueue.desc).map (fun d => d.parameters.length) = some 2 := by decide +kernel
theorem gd_LT_post : y_LT_post.cls ≠ "java/lang/invoke/MethodHandle" ∧ y_LT_post.cls ≠ "java/lang/invoke/VarHandle" ∧ (parseMethodDescriptor y_LT_post.desc).map (fun d => d.parameters.length) = some 2 := by decide +kernel
theorem gd_ND_divideEntry : y_ND_divideEntry.cls ≠ "java/lang/invoke/MethodHandle" ∧ y_ND_divideEntry.cls ≠ "java/lang/invoke/VarHandle" ∧ (parseMethodDescriptor y_ND_divideEntry.desc).map (fun d => d.parameters.length) = some 2 := by decide +kernel
theorem gd_LW_answer : y_LW_answer.cls ≠ "java/lang/invoke/MethodHandle" ∧ y_LW_answer.cls ≠ "java/lang/invoke/VarHandle" ∧ (parseMethodDescriptor y_LW_answer.desc).map (fun d => d.parameters.length) = some 3 := by decide +kernel
theorem gd_LT_answer : y_LT_answer.cls ≠ "java/lang/invoke/MethodHandle" ∧ y_LT_answer.cls ≠ "java/lang/invoke/VarHandle" ∧ (parseMethodDescriptor y_LT_answer.desc).map (fun d => d.parameters.length) = some 1 := by decide +kernel
theorem gd_LW_look : y_LW_look.cls ≠ "java/lang/invoke/MethodHandle" ∧ y_LW_look.cls ≠ "java/lang/invoke/VarHandle" ∧ (parseMethodDescriptor y_LW_look.desc).map (fun d => d.parameters.length) = some 4 := by decide +kernel
theorem gd_LT_look : y_LT_look.cls ≠ "java/lang/invoke/MethodHandle" ∧ y_LT_look.cls ≠ "java/lang/invoke/VarHandle" ∧ (parseMethodDescriptor y_LT_look.desc).map (fun d => d.parameters.length) = some 2 := by decide +kernel
theorem gd_LW_page : y_LW_page.cls ≠ "java/lang/invoke/MethodHandle" ∧ y_LW_page.cls ≠ "java/lang/invoke/VarHandle" ∧ (parseMethodDescriptor y_LW_page.desc).map (fun d => d.parameters.length) = some 4 := by decide +kernel
theorem gd_LT_page : y_LT_page.cls ≠ "java/lang/invoke/MethodHandle" ∧ y_LT_page.cls ≠ "java/lang/invoke/VarHandle" ∧ (parseMethodDescriptor y_LT_page.desc).map (fun d => d.parameters.length) = some 2 := by decide +kernel
theorem gd_LW_entry : y_LW_entry.cls ≠ "java/lang/invoke/MethodHandle" ∧ y_LW_entry.cls ≠ "java/lang/invoke/VarHandle" ∧ (parseMethodDescriptor y_LW_entry.desc).map (fun d => d.parameters.length) = some 5 := by decide +kernel
theorem gd_LT_entry : y_LT_entry.cls ≠ "java/lang/invoke/MethodHandle" ∧ y_LT_entry.cls ≠ "java/lang/invoke/VarHandle" ∧ (parseMethodDescriptor y_LT_entry.desc).map (fun d => d.parameters.length) = some 3 := by decide +kernel
theorem gd_LW_under : y_LW_under.cls ≠ "java/lang/invoke/MethodHandle" ∧ y_LW_under.cls ≠ "java/lang/invoke/VarHandle" ∧ (parseMethodDescriptor y_LW_under.desc).map (fun d => d.parameters.length) = some 3 := by decide +kernel
theorem gd_LT_under : y_LT_under.cls ≠ "java/lang/invoke/MethodHandle" ∧ y_LT_under.cls ≠ "java/lang/invoke/VarHandle" ∧ (parseMethodDescriptor y_LT_under.desc).map (fun d => d.parameters.length) = some 1 := by decide +kernel
theorem gd_LT_leafEntries : y_LT_leafEntries.cls ≠ "java/lang/invoke/MethodHandle" ∧ y_LT_leafEntries.cls ≠ "java/lang/invoke/VarHandle" ∧ (parseMethodDescriptor y_LT_leafEntries.desc).map (fun d => d.parameters.length) = some 2 := by decide +kernel
theorem gd_MO_init : y_MO_init.cls ≠ "java/lang/invoke/MethodHandle" ∧ y_MO_init.cls ≠ "java/lang/invoke/VarHandle" ∧ (parseMethodDescriptor y_MO_init.desc).map (fun d => d.parameters.length) = some 0 := by decide +kernel
theorem gd_MO_thrown : y_MO_thrown.cls ≠ "java/lang/invoke/MethodHandle" ∧ y_MO_thrown.cls ≠ "java/lang/invoke/VarHandle" ∧ (parseMethodDescriptor y_MO_thrown.desc).map (fun d => d.parameters.length) = some 0 := by decide +kernel
theorem gd_MO_begin : y_MO_begin.cls ≠ "java/lang/invoke/MethodHandle" ∧ y_MO_begin.cls ≠ "java/lang/invoke/VarHandle" ∧ (parseMethodDescriptor y_MO_begin.desc).map (fun d => d.parameters.length) = some 4 := by decide +kernel
theorem gd_MO_isTask : y_MO_isTask.cls ≠ "java/lang/invoke/MethodHandle" ∧ y_MO_isTask.cls ≠ "java/lang/invoke/VarHandle" ∧ (parseMethodDescriptor y_MO_isTask.desc).map (fun d => d.parameters.length) = some 1 := by decide +kernel
theorem gd_MO_within : y_MO_within.cls ≠ "java/lang/invoke/MethodHandle" ∧ y_MO_within.cls ≠ "java/lang/invoke/VarHandle" ∧ (parseMethodDescriptor y_MO_within.desc).map (fun d => d.parameters.length) = some 3 := by decide +kernel
theorem gd_MO_fails : y_MO_fails.cls ≠ "java/lang/invoke/MethodHandle" ∧ y_MO_fails.cls ≠ "java/lang/invoke/VarHandle" ∧ (parseMethodDescriptor y_MO_fails.desc).map (fun d => d.parameters.length) = some 2 := by decide +kernel
theorem gd_MO_forgetPath : y_MO_forgetPath.cls ≠ "java/lang/invoke/MethodHandle" ∧ y_MO_forgetPath.cls ≠ "java/lang/invoke/VarHandle" ∧ (parseMethodDescriptor y_MO_forgetPath.desc).map (fun d => d.parameters.length) = some 1 := by decide +kernel
theorem gd_MO_search : y_MO_search.cls ≠ "java/lang/invoke/MethodHandle" ∧ y_MO_search.cls ≠ "java/lang/invoke/VarHandle" ∧ (parseMethodDescriptor y_MO_search.desc).map (fun d => d.parameters.length) = some 2 := by decide +kernel
theorem gd_MO_beginJoin : y_MO_beginJoin.cls ≠ "java/lang/invoke/MethodHandle" ∧ y_MO_beginJoin.cls ≠ "java/lang/invoke/VarHandle" ∧ (parseMethodDescriptor y_MO_beginJoin.desc).map (fun d => d.parameters.length) = some 1 := by decide +kernel
theorem gd_MO_leaveQueue : y_MO_leaveQueue.cls ≠ "java/lang/invoke/MethodHandle" ∧ y_MO_leaveQueue.cls ≠ "java/lang/invoke/VarHandle" ∧ (parseMethodDescriptor y_MO_leaveQueue.desc).map (fun d => d.parameters.length) = some 1 := by decide +kernel
theorem gd_MO_step : y_MO_step.cls ≠ "java/lang/invoke/MethodHandle" ∧ y_MO_step.cls ≠ "java/lang/invoke/VarHandle" ∧ (parseMethodDescriptor y_MO_step.desc).map (fun d => d.parameters.length) = some 1 := by decide +kernel
theorem gd_MO_searches : y_MO_searches.cls ≠ "java/lang/invoke/MethodHandle" ∧ y_MO_searches.cls ≠ "java/lang/invoke/VarHandle" ∧ (parseMethodDescriptor y_MO_searches.desc).map (fun d => d.parameters.length) = some 1 := by decide +kernel
theorem gd_MO_finish : y_MO_finish.cls ≠ "java/lang/invoke/MethodHandle" ∧ y_MO_finish.cls ≠ "java/lang/invoke/VarHandle" ∧ (parseMethodDescriptor y_MO_finish.desc).map (fun d => d.parameters.length) = some 2 := by decide +kernel
theorem gd_MO_release : y_MO_release.cls ≠ "java/lang/invoke/MethodHandle" ∧ y_MO_release.cls ≠ "java/lang/invoke/VarHandle" ∧ (parseMethodDescriptor y_MO_release.desc).map (fun d => d.parameters.length) = some 1 := by decide +kernel
theorem gd_MO_isLost : y_MO_isLost.cls ≠ "java/lang/invoke/MethodHandle" ∧ y_MO_isLost.cls ≠ "java/lang/invoke/VarHandle" ∧ (parseMethodDescriptor y_MO_isLost.desc).map (fun d => d.parameters.length) = some 1 := by decide +kernel
theorem gd_MO_restart : y_MO_restart.cls ≠ "java/lang/invoke/MethodHandle" ∧ y_MO_restart.cls ≠ "java/lang/invoke/VarHandle" ∧ (parseMethodDescriptor y_MO_restart.desc).map (fun d => d.parameters.length) = some 1 := by decide +kernel
theorem gd_MO_goRight : y_MO_goRight.cls ≠ "java/lang/invoke/MethodHandle" ∧ y_MO_goRight.cls ≠ "java/lang/invoke/VarHandle" ∧ (parseMethodDescriptor y_MO_goRight.desc).map (fun d => d.parameters.length) = some 1 := by decide +kernel
theorem gd_MO_from : y_MO_from.cls ≠ "java/lang/invoke/MethodHandle" ∧ y_MO_from.cls ≠ "java/lang/invoke/VarHandle" ∧ (parseMethodDescriptor y_MO_from.desc).map (fun d => d.parameters.length) = some 2 := by decide +kernel
theorem gd_MO_rises : y_MO_rises.cls ≠ "java/lang/invoke/MethodHandle" ∧ y_MO_rises.cls ≠ "java/lang/invoke/VarHandle" ∧ (parseMethodDescriptor y_MO_rises.desc).map (fun d => d.parameters.length) = some 1 := by decide +kernel
theorem gd_MO_freePage : y_MO_freePage.cls ≠ "java/lang/invoke/MethodHandle" ∧ y_MO_freePage.cls ≠ "java/lang/invoke/VarHandle" ∧ (parseMethodDescriptor y_MO_freePage.desc).map (fun d => d.parameters.length) = some 0 := by decide +kernel
theorem gd_MO_make : y_MO_make.cls ≠ "java/lang/invoke/MethodHandle" ∧ y_MO_make.cls ≠ "java/lang/invoke/VarHandle" ∧ (parseMethodDescriptor y_MO_make.desc).map (fun d => d.parameters.length) = some 5 := by decide +kernel
theorem gd_MO_append : y_MO_append.cls ≠ "java/lang/invoke/MethodHandle" ∧ y_MO_append.cls ≠ "java/lang/invoke/VarHandle" ∧ (parseMethodDescriptor y_MO_append.desc).map (fun d => d.parameters.length) = some 3 := by decide +kernel
theorem gd_MO_has : y_MO_has.cls ≠ "java/lang/invoke/MethodHandle" ∧ y_MO_has.cls ≠ "java/lang/invoke/VarHandle" ∧ (parseMethodDescriptor y_MO_has.desc).map (fun d => d.parameters.length) = some 2 := by decide +kernel
theorem gd_MO_locks : y_MO_locks.cls ≠ "java/lang/invoke/MethodHandle" ∧ y_MO_locks.cls ≠ "java/lang/invoke/VarHandle" ∧ (parseMethodDescriptor y_MO_locks.desc).map (fun d => d.parameters.length) = some 1 := by decide +kernel
theorem gd_MO_holds : y_MO_holds.cls ≠ "java/lang/invoke/MethodHandle" ∧ y_MO_holds.cls ≠ "java/lang/invoke/VarHandle" ∧ (parseMethodDescriptor y_MO_holds.desc).map (fun d => d.parameters.length) = some 1 := by decide +kernel
theorem gd_MO_puts : y_MO_puts.cls ≠ "java/lang/invoke/MethodHandle" ∧ y_MO_puts.cls ≠ "java/lang/invoke/VarHandle" ∧ (parseMethodDescriptor y_MO_puts.desc).map (fun d => d.parameters.length) = some 2 := by decide +kernel
theorem gd_MO_insert : y_MO_insert.cls ≠ "java/lang/invoke/MethodHandle" ∧ y_MO_insert.cls ≠ "java/lang/invoke/VarHandle" ∧ (parseMethodDescriptor y_MO_insert.desc).map (fun d => d.parameters.length) = some 4 := by decide +kernel
theorem gd_MO_split : y_MO_split.cls ≠ "java/lang/invoke/MethodHandle" ∧ y_MO_split.cls ≠ "java/lang/invoke/VarHandle" ∧ (parseMethodDescriptor y_MO_split.desc).map (fun d => d.parameters.length) = some 2 := by decide +kernel
theorem gd_MO_posts : y_MO_posts.cls ≠ "java/lang/invoke/MethodHandle" ∧ y_MO_posts.cls ≠ "java/lang/invoke/VarHandle" ∧ (parseMethodDescriptor y_MO_posts.desc).map (fun d => d.parameters.length) = some 2 := by decide +kernel
theorem gd_MO_removes : y_MO_removes.cls ≠ "java/lang/invoke/MethodHandle" ∧ y_MO_removes.cls ≠ "java/lang/invoke/VarHandle" ∧ (parseMethodDescriptor y_MO_removes.desc).map (fun d => d.parameters.length) = some 2 := by decide +kernel
theorem gd_MO_takeOut : y_MO_takeOut.cls ≠ "java/lang/invoke/MethodHandle" ∧ y_MO_takeOut.cls ≠ "java/lang/invoke/VarHandle" ∧ (parseMethodDescriptor y_MO_takeOut.desc).map (fun d => d.parameters.length) = some 2 := by decide +kernel
theorem gd_MO_comeIntoQueue : y_MO_comeIntoQueue.cls ≠ "java/lang/invoke/MethodHandle" ∧ y_MO_comeIntoQueue.cls ≠ "java/lang/invoke/VarHandle" ∧ (parseMethodDescriptor y_MO_comeIntoQueue.desc).map (fun d => d.parameters.length) = some 1 := by decide +kernel
theorem gd_MO_joins : y_MO_joins.cls ≠ "java/lang/invoke/MethodHandle" ∧ y_MO_joins.cls ≠ "java/lang/invoke/VarHandle" ∧ (parseMethodDescriptor y_MO_joins.desc).map (fun d => d.parameters.length) = some 2 := by decide +kernel
theorem gd_MO_childOf : y_MO_childOf.cls ≠ "java/lang/invoke/MethodHandle" ∧ y_MO_childOf.cls ≠ "java/lang/invoke/VarHandle" ∧ (parseMethodDescriptor y_MO_childOf.desc).map (fun d => d.parameters.length) = some 2 := by decide +kernel
theorem gd_MO_balance : y_MO_balance.cls ≠ "java/lang/invoke/MethodHandle" ∧ y_MO_balance.cls ≠ "java/lang/invoke/VarHandle" ∧ (parseMethodDescriptor y_MO_balance.desc).map (fun d => d.parameters.length) = some 2 := by decide +kernel
theorem gd_MO_die : y_MO_die.cls ≠ "java/lang/invoke/MethodHandle" ∧ y_MO_die.cls ≠ "java/lang/invoke/VarHandle" ∧ (parseMethodDescriptor y_MO_die.desc).map (fun d => d.parameters.length) = some 2 := by decide +kernel
theorem gd_MO_shrinks : y_MO_shrinks.cls ≠ "java/lang/invoke/MethodHandle" ∧ y_MO_shrinks.cls ≠ "java/lang/invoke/VarHandle" ∧ (parseMethodDescriptor y_MO_shrinks.desc).map (fun d => d.parameters.length) = some 2 := by decide +kernel
theorem gd_MO_answer : y_MO_answer.cls ≠ "java/lang/invoke/MethodHandle" ∧ y_MO_answer.cls ≠ "java/lang/invoke/VarHandle" ∧ (parseMethodDescriptor y_MO_answer.desc).map (fun d => d.parameters.length) = some 1 := by decide +kernel
theorem gd_MO_look : y_MO_look.cls ≠ "java/lang/invoke/MethodHandle" ∧ y_MO_look.cls ≠ "java/lang/invoke/VarHandle" ∧ (parseMethodDescriptor y_MO_look.desc).map (fun d => d.parameters.length) = some 2 := by decide +kernel
theorem gd_MO_page : y_MO_page.cls ≠ "java/lang/invoke/MethodHandle" ∧ y_MO_page.cls ≠ "java/lang/invoke/VarHandle" ∧ (parseMethodDescriptor y_MO_page.desc).map (fun d => d.parameters.length) = some 2 := by decide +kernel
theorem gd_MO_entry : y_MO_entry.cls ≠ "java/lang/invoke/MethodHandle" ∧ y_MO_entry.cls ≠ "java/lang/invoke/VarHandle" ∧ (parseMethodDescriptor y_MO_entry.desc).map (fun d => d.parameters.length) = some 3 := by decide +kernel
theorem gd_MO_isNode : y_MO_isNode.cls ≠ "java/lang/invoke/MethodHandle" ∧ y_MO_isNode.cls ≠ "java/lang/invoke/VarHandle" ∧ (parseMethodDescriptor y_MO_isNode.desc).map (fun d => d.parameters.length) = some 1 := by decide +kernel
theorem gd_MO_root : y_MO_root.cls ≠ "java/lang/invoke/MethodHandle" ∧ y_MO_root.cls ≠ "java/lang/invoke/VarHandle" ∧ (parseMethodDescriptor y_MO_root.desc).map (fun d => d.parameters.length) = some 0 := by decide +kernel
theorem gd_MO_queued : y_MO_queued.cls ≠ "java/lang/invoke/MethodHandle" ∧ y_MO_queued.cls ≠ "java/lang/invoke/VarHandle" ∧ (parseMethodDescriptor y_MO_queued.desc).map (fun d => d.parameters.length) = some 0 := by decide +kernel
theorem gd_MO_under : y_MO_under.cls ≠ "java/lang/invoke/MethodHandle" ∧ y_MO_under.cls ≠ "java/lang/invoke/VarHandle" ∧ (parseMethodDescriptor y_MO_under.desc).map (fun d => d.parameters.length) = some 1 := by decide +kernel
end
section
theorem d_MO_init_0 : decode b_MO_init 0 = .ok (.aload_n 0, 1) := by decide +kernel
theorem d_MO_init_1 : decode b_MO_init 1 = .ok (.invokespecial 1, 3) := by decide +kernel
theorem d_MO_init_4 : decode b_MO_init 4 = .ok (.aload_n 0, 1) := by decide +kernel
theorem d_MO_init_5 : decode b_MO_init 5 = .ok (.bipush 24, 2) := by decide +kernel
theorem d_MO_init_7 : decode b_MO_init 7 = .ok (.newarray .int, 2) := by decide +kernel
theorem d_MO_init_9 : decode b_MO_init 9 = .ok (.putfield 7, 3) := by decide +kernel
theorem d_MO_init_12 : decode b_MO_init 12 = .ok (.aload_n 0, 1) := by decide +kernel
theorem d_MO_init_13 : decode b_MO_init 13 = .ok (.bipush 24, 2) := by decide +kernel
theorem d_MO_init_15 : decode b_MO_init 15 = .ok (.newarray .int, 2) := by decide +kernel
theorem d_MO_init_17 : decode b_MO_init 17 = .ok (.putfield 13, 3) := by decide +kernel
theorem d_MO_init_20 : decode b_MO_init 20 = .ok (.aload_n 0, 1) := by decide +kernel
theorem d_MO_init_21 : decode b_MO_init 21 = .ok (.bipush 24, 2) := by decide +kernel
theorem d_MO_init_23 : decode b_MO_init 23 = .ok (.newarray .int, 2) := by decide +kernel
theorem d_MO_init_25 : decode b_MO_init 25 = .ok (.putfield 16, 3) := by decide +kernel
theorem d_MO_init_28 : decode b_MO_init 28 = .ok (.aload_n 0, 1) := by decide +kernel
theorem d_MO_init_29 : decode b_MO_init 29 = .ok (.bipush 24, 2) := by decide +kernel
theorem d_MO_init_31 : decode b_MO_init 31 = .ok (.newarray .int, 2) := by decide +kernel
theorem d_MO_init_33 : decode b_MO_init 33 = .ok (.putfield 19, 3) := by decide +kernel
theorem d_MO_init_36 : decode b_MO_init 36 = .ok (.aload_n 0, 1) := by decide +kernel
theorem d_MO_init_37 : decode b_MO_init 37 = .ok (.bipush 24, 2) := by decide +kernel
theorem d_MO_init_39 : decode b_MO_init 39 = .ok (.newarray .int, 2) := by decide +kernel
theorem d_MO_init_41 : decode b_MO_init 41 = .ok (.putfield 22, 3) := by decide +kernel
theorem d_MO_init_44 : decode b_MO_init 44 = .ok (.aload_n 0, 1) := by decide +kernel
theorem d_MO_init_45 : decode b_MO_init 45 = .ok (.bipush 24, 2) := by decide +kernel
theorem d_MO_init_47 : decode b_MO_init 47 = .ok (.newarray .int, 2) := by decide +kernel
theorem d_MO_init_49 : decode b_MO_init 49 = .ok (.putfield 25, 3) := by decide +kernel
theorem d_MO_init_52 : decode b_MO_init 52 = .ok (.aload_n 0, 1) := by decide +kernel
theorem d_MO_init_53 : decode b_MO_init 53 = .ok (.bipush 24, 2) := by decide +kernel
theorem d_MO_init_55 : decode b_MO_init 55 = .ok (.newarray .int, 2) := by decide +kernel
theorem d_MO_init_57 : decode b_MO_init 57 = .ok (.putfield 28, 3) := by decide +kernel
theorem d_MO_init_60 : decode b_MO_init 60 = .ok (.aload_n 0, 1) := by decide +kernel
theorem d_MO_init_61 : decode b_MO_init 61 = .ok (.bipush 120, 2) := by decide +kernel
theorem d_MO_init_63 : decode b_MO_init 63 = .ok (.newarray .int, 2) := by decide +kernel
theorem d_MO_init_65 : decode b_MO_init 65 = .ok (.putfield 31, 3) := by decide +kernel
theorem d_MO_init_68 : decode b_MO_init 68 = .ok (.aload_n 0, 1) := by decide +kernel
theorem d_MO_init_69 : decode b_MO_init 69 = .ok (.bipush 120, 2) := by decide +kernel
theorem d_MO_init_71 : decode b_MO_init 71 = .ok (.newarray .int, 2) := by decide +kernel
theorem d_MO_init_73 : decode b_MO_init 73 = .ok (.putfield 34, 3) := by decide +kernel
theorem d_MO_init_76 : decode b_MO_init 76 = .ok (.aload_n 0, 1) := by decide +kernel
theorem d_MO_init_77 : decode b_MO_init 77 = .ok (.bipush 24, 2) := by decide +kernel
theorem d_MO_init_79 : decode b_MO_init 79 = .ok (.newarray .int, 2) := by decide +kernel
theorem d_MO_init_81 : decode b_MO_init 81 = .ok (.putfield 37, 3) := by decide +kernel
theorem d_MO_init_84 : decode b_MO_init 84 = .ok (.aload_n 0, 1) := by decide +kernel
theorem d_MO_init_85 : decode b_MO_init 85 = .ok (.bipush 12, 2) := by decide +kernel
theorem d_MO_init_87 : decode b_MO_init 87 = .ok (.newarray .int, 2) := by decide +kernel
theorem d_MO_init_89 : decode b_MO_init 89 = .ok (.putfield 40, 3) := by decide +kernel
theorem d_MO_init_92 : decode b_MO_init 92 = .ok (.aload_n 0, 1) := by decide +kernel
theorem d_MO_init_93 : decode b_MO_init 93 = .ok (.iconst 4, 1) := by decide +kernel
theorem d_MO_init_94 : decode b_MO_init 94 = .ok (.newarray .boolean, 2) := by decide +kernel
theorem d_MO_init_96 : decode b_MO_init 96 = .ok (.putfield 43, 3) := by decide +kernel
theorem d_MO_init_99 : decode b_MO_init 99 = .ok (.aload_n 0, 1) := by decide +kernel
theorem d_MO_init_100 : decode b_MO_init 100 = .ok (.iconst 4, 1) := by decide +kernel
theorem d_MO_init_101 : decode b_MO_init 101 = .ok (.newarray .int, 2) := by decide +kernel
theorem d_MO_init_103 : decode b_MO_init 103 = .ok (.putfield 47, 3) := by decide +kernel
theorem d_MO_init_106 : decode b_MO_init 106 = .ok (.aload_n 0, 1) := by decide +kernel
theorem d_MO_init_107 : decode b_MO_init 107 = .ok (.iconst 4, 1) := by decide +kernel
theorem d_MO_init_108 : decode b_MO_init 108 = .ok (.newarray .int, 2) := by decide +kernel
theorem d_MO_init_110 : decode b_MO_init 110 = .ok (.putfield 50, 3) := by decide +kernel
theorem d_MO_init_113 : decode b_MO_init 113 = .ok (.aload_n 0, 1) := by decide +kernel
theorem d_MO_init_114 : decode b_MO_init 114 = .ok (.iconst 4, 1) := by decide +kernel
theorem d_MO_init_115 : decode b_MO_init 115 = .ok (.newarray .int, 2) := by decide +kernel
theorem d_MO_init_117 : decode b_MO_init 117 = .ok (.putfield 53, 3) := by decide +kernel
theorem d_MO_init_120 : decode b_MO_init 120 = .ok (.aload_n 0, 1) := by decide +kernel
theorem d_MO_init_121 : decode b_MO_init 121 = .ok (.iconst 4, 1) := by decide +kernel
theorem d_MO_init_122 : decode b_MO_init 122 = .ok (.newarray .int, 2) := by decide +kernel
theorem d_MO_init_124 : decode b_MO_init 124 = .ok (.putfield 56, 3) := by decide +kernel
theorem d_MO_init_127 : decode b_MO_init 127 = .ok (.aload_n 0, 1) := by decide +kernel
theorem d_MO_init_128 : decode b_MO_init 128 = .ok (.iconst 4, 1) := by decide +kernel
theorem d_MO_init_129 : decode b_MO_init 129 = .ok (.newarray .int, 2) := by decide +kernel
theorem d_MO_init_131 : decode b_MO_init 131 = .ok (.putfield 59, 3) := by decide +kernel
theorem d_MO_init_134 : decode b_MO_init 134 = .ok (.aload_n 0, 1) := by decide +kernel
theorem d_MO_init_135 : decode b_MO_init 135 = .ok (.iconst 4, 1) := by decide +kernel
theorem d_MO_init_136 : decode b_MO_init 136 = .ok (.newarray .int, 2) := by decide +kernel
theorem d_MO_init_138 : decode b_MO_init 138 = .ok (.putfield 62, 3) := by decide +kernel
theorem d_MO_init_141 : decode b_MO_init 141 = .ok (.aload_n 0, 1) := by decide +kernel
theorem d_MO_init_142 : decode b_MO_init 142 = .ok (.iconst 4, 1) := by decide +kernel
theorem d_MO_init_143 : decode b_MO_init 143 = .ok (.newarray .int, 2) := by decide +kernel
theorem d_MO_init_145 : decode b_MO_init 145 = .ok (.putfield 65, 3) := by decide +kernel
theorem d_MO_init_148 : decode b_MO_init 148 = .ok (.aload_n 0, 1) := by decide +kernel
theorem d_MO_init_149 : decode b_MO_init 149 = .ok (.sipush 128, 3) := by decide +kernel
theorem d_MO_init_152 : decode b_MO_init 152 = .ok (.newarray .int, 2) := by decide +kernel
theorem d_MO_init_154 : decode b_MO_init 154 = .ok (.putfield 68, 3) := by decide +kernel
theorem d_MO_init_157 : decode b_MO_init 157 = .ok (.aload_n 0, 1) := by decide +kernel
theorem d_MO_init_158 : decode b_MO_init 158 = .ok (.iconst 4, 1) := by decide +kernel
theorem d_MO_init_159 : decode b_MO_init 159 = .ok (.newarray .boolean, 2) := by decide +kernel
theorem d_MO_init_161 : decode b_MO_init 161 = .ok (.putfield 71, 3) := by decide +kernel
theorem d_MO_init_164 : decode b_MO_init 164 = .ok (.aload_n 0, 1) := by decide +kernel
theorem d_MO_init_165 : decode b_MO_init 165 = .ok (.iconst 4, 1) := by decide +kernel
theorem d_MO_init_166 : decode b_MO_init 166 = .ok (.newarray .int, 2) := by decide +kernel
theorem d_MO_init_168 : decode b_MO_init 168 = .ok (.putfield 74, 3) := by decide +kernel
theorem d_MO_init_171 : decode b_MO_init 171 = .ok (.aload_n 0, 1) := by decide +kernel
theorem d_MO_init_172 : decode b_MO_init 172 = .ok (.bipush 16, 2) := by decide +kernel
theorem d_MO_init_174 : decode b_MO_init 174 = .ok (.newarray .int, 2) := by decide +kernel
theorem d_MO_init_176 : decode b_MO_init 176 = .ok (.putfield 77, 3) := by decide +kernel
theorem d_MO_init_179 : decode b_MO_init 179 = .ok (.aload_n 0, 1) := by decide +kernel
theorem d_MO_init_180 : decode b_MO_init 180 = .ok (.bipush 120, 2) := by decide +kernel
theorem d_MO_init_182 : decode b_MO_init 182 = .ok (.newarray .int, 2) := by decide +kernel
theorem d_MO_init_184 : decode b_MO_init 184 = .ok (.putfield 80, 3) := by decide +kernel
theorem d_MO_init_187 : decode b_MO_init 187 = .ok (.aload_n 0, 1) := by decide +kernel
theorem d_MO_init_188 : decode b_MO_init 188 = .ok (.getfield 7, 3) := by decide +kernel
theorem d_MO_init_191 : decode b_MO_init 191 = .ok (.iconst 0, 1) := by decide +kernel
theorem d_MO_init_192 : decode b_MO_init 192 = .ok (.iconst 1, 1) := by decide +kernel
theorem d_MO_init_193 : decode b_MO_init 193 = .ok (.iastore, 1) := by decide +kernel
theorem d_MO_init_194 : decode b_MO_init 194 = .ok (.aload_n 0, 1) := by decide +kernel
theorem d_MO_init_195 : decode b_MO_init 195 = .ok (.getfield 16, 3) := by decide +kernel
theorem d_MO_init_198 : decode b_MO_init 198 = .ok (.iconst 0, 1) := by decide +kernel
theorem d_MO_init_199 : decode b_MO_init 199 = .ok (.iconst (-1), 1) := by decide +kernel
theorem d_MO_init_200 : decode b_MO_init 200 = .ok (.iastore, 1) := by decide +kernel
theorem d_MO_init_201 : decode b_MO_init 201 = .ok (.aload_n 0, 1) := by decide +kernel
theorem d_MO_init_202 : decode b_MO_init 202 = .ok (.getfield 19, 3) := by decide +kernel
theorem d_MO_init_205 : decode b_MO_init 205 = .ok (.iconst 0, 1) := by decide +kernel
theorem d_MO_init_206 : decode b_MO_init 206 = .ok (.sipush 999, 3) := by decide +kernel
theorem d_MO_init_209 : decode b_MO_init 209 = .ok (.iastore, 1) := by decide +kernel
theorem d_MO_init_210 : decode b_MO_init 210 = .ok (.aload_n 0, 1) := by decide +kernel
theorem d_MO_init_211 : decode b_MO_init 211 = .ok (.getfield 22, 3) := by decide +kernel
theorem d_MO_init_214 : decode b_MO_init 214 = .ok (.iconst 0, 1) := by decide +kernel
theorem d_MO_init_215 : decode b_MO_init 215 = .ok (.iconst (-1), 1) := by decide +kernel
theorem d_MO_init_216 : decode b_MO_init 216 = .ok (.iastore, 1) := by decide +kernel
theorem d_MO_init_217 : decode b_MO_init 217 = .ok (.iconst 0, 1) := by decide +kernel
theorem d_MO_init_218 : decode b_MO_init 218 = .ok (.istore_n 1, 1) := by decide +kernel
theorem d_MO_init_219 : decode b_MO_init 219 = .ok (.iload_n 1, 1) := by decide +kernel
theorem d_MO_init_220 : decode b_MO_init 220 = .ok (.bipush 24, 2) := by decide +kernel
theorem d_MO_init_222 : decode b_MO_init 222 = .ok (.if_icmp .ge 16, 3) := by decide +kernel
theorem d_MO_init_225 : decode b_MO_init 225 = .ok (.aload_n 0, 1) := by decide +kernel
theorem d_MO_init_226 : decode b_MO_init 226 = .ok (.getfield 28, 3) := by decide +kernel
theorem d_MO_init_229 : decode b_MO_init 229 = .ok (.iload_n 1, 1) := by decide +kernel
theorem d_MO_init_230 : decode b_MO_init 230 = .ok (.iconst (-1), 1) := by decide +kernel
theorem d_MO_init_231 : decode b_MO_init 231 = .ok (.iastore, 1) := by decide +kernel
theorem d_MO_init_232 : decode b_MO_init 232 = .ok (.iinc 1 1, 3) := by decide +kernel
theorem d_MO_init_235 : decode b_MO_init 235 = .ok (.goto (-16), 3) := by decide +kernel
theorem d_MO_init_238 : decode b_MO_init 238 = .ok (.return_, 1) := by decide +kernel
theorem d_MO_thrown_0 : decode b_MO_thrown 0 = .ok (.aload_n 0, 1) := by decide +kernel
theorem d_MO_thrown_1 : decode b_MO_thrown 1 = .ok (.getfield 83, 3) := by decide +kernel
theorem d_MO_thrown_4 : decode b_MO_thrown 4 = .ok (.ireturn, 1) := by decide +kernel
theorem d_MO_begin_0 : decode b_MO_begin 0 = .ok (.aload_n 0, 1) := by decide +kernel
theorem d_MO_begin_1 : decode b_MO_begin 1 = .ok (.aload_n 0, 1) := by decide +kernel
theorem d_MO_begin_2 : decode b_MO_begin 2 = .ok (.iload_n 1, 1) := by decide +kernel
theorem d_MO_begin_3 : decode b_MO_begin 3 = .ok (.invokevirtual 115, 3) := by decide +kernel
theorem d_MO_begin_6 : decode b_MO_begin 6 = .ok (.ifCond .eq 28, 3) := by decide +kernel
theorem d_MO_begin_9 : decode b_MO_begin 9 = .ok (.iload_n 2, 1) := by decide +kernel
theorem d_MO_begin_10 : decode b_MO_begin 10 = .ok (.iconst 0, 1) := by decide +kernel
theorem d_MO_begin_11 : decode b_MO_begin 11 = .ok (.iconst 3, 1) := by decide +kernel
theorem d_MO_begin_12 : decode b_MO_begin 12 = .ok (.invokestatic 101, 3) := by decide +kernel
theorem d_MO_begin_15 : decode b_MO_begin 15 = .ok (.ifCond .eq 19, 3) := by decide +kernel
theorem d_MO_begin_18 : decode b_MO_begin 18 = .ok (.iload_n 2, 1) := by decide +kernel
theorem d_MO_begin_19 : decode b_MO_begin 19 = .ok (.iconst 3, 1) := by decide +kernel
theorem d_MO_begin_20 : decode b_MO_begin 20 = .ok (.if_icmp .eq 18, 3) := by decide +kernel
theorem d_MO_begin_23 : decode b_MO_begin 23 = .ok (.iload_n 3, 1) := by decide +kernel
theorem d_MO_begin_24 : decode b_MO_begin 24 = .ok (.iconst 0, 1) := by decide +kernel
theorem d_MO_begin_25 : decode b_MO_begin 25 = .ok (.sipush 999, 3) := by decide +kernel
theorem d_MO_begin_28 : decode b_MO_begin 28 = .ok (.invokestatic 101, 3) := by decide +kernel
theorem d_MO_begin_31 : decode b_MO_begin 31 = .ok (.ifCond .ne 7, 3) := by decide +kernel
theorem d_MO_begin_34 : decode b_MO_begin 34 = .ok (.iconst 1, 1) := by decide +kernel
theorem d_MO_begin_35 : decode b_MO_begin 35 = .ok (.goto 4, 3) := by decide +kernel
theorem d_MO_begin_38 : decode b_MO_begin 38 = .ok (.iconst 0, 1) := by decide +kernel
theorem d_MO_begin_39 : decode b_MO_begin 39 = .ok (.iconst 1, 1) := by decide +kernel
theorem d_MO_begin_40 : decode b_MO_begin 40 = .ok (.invokevirtual 119, 3) := by decide +kernel
theorem d_MO_begin_43 : decode b_MO_begin 43 = .ok (.ifCond .ne 17, 3) := by decide +kernel
theorem d_MO_begin_46 : decode b_MO_begin 46 = .ok (.aload_n 0, 1) := by decide +kernel
theorem d_MO_begin_47 : decode b_MO_begin 47 = .ok (.aload_n 0, 1) := by decide +kernel
theorem d_MO_begin_48 : decode b_MO_begin 48 = .ok (.getfield 43, 3) := by decide +kernel
theorem d_MO_begin_51 : decode b_MO_begin 51 = .ok (.iload_n 1, 1) := by decide +kernel
theorem d_MO_begin_52 : decode b_MO_begin 52 = .ok (.baload, 1) := by decide +kernel
theorem d_MO_begin_53 : decode b_MO_begin 53 = .ok (.iconst 2, 1) := by decide +kernel
theorem d_MO_begin_54 : decode b_MO_begin 54 = .ok (.invokevirtual 119, 3) := by decide +kernel
theorem d_MO_begin_57 : decode b_MO_begin 57 = .ok (.ifCond .eq 4, 3) := by decide +kernel
theorem d_MO_begin_60 : decode b_MO_begin 60 = .ok (.return_, 1) := by decide +kernel
theorem d_MO_begin_61 : decode b_MO_begin 61 = .ok (.aload_n 0, 1) := by decide +kernel
theorem d_MO_begin_62 : decode b_MO_begin 62 = .ok (.getfield 43, 3) := by decide +kernel
theorem d_MO_begin_65 : decode b_MO_begin 65 = .ok (.iload_n 1, 1) := by decide +kernel
theorem d_MO_begin_66 : decode b_MO_begin 66 = .ok (.iconst 1, 1) := by decide +kernel
theorem d_MO_begin_67 : decode b_MO_begin 67 = .ok (.bastore, 1) := by decide +kernel
theorem d_MO_begin_68 : decode b_MO_begin 68 = .ok (.aload_n 0, 1) := by decide +kernel
theorem d_MO_begin_69 : decode b_MO_begin 69 = .ok (.getfield 47, 3) := by decide +kernel
theorem d_MO_begin_72 : decode b_MO_begin 72 = .ok (.iload_n 1, 1) := by decide +kernel
theorem d_MO_begin_73 : decode b_MO_begin 73 = .ok (.iload_n 2, 1) := by decide +kernel
theorem d_MO_begin_74 : decode b_MO_begin 74 = .ok (.iastore, 1) := by decide +kernel
theorem d_MO_begin_75 : decode b_MO_begin 75 = .ok (.aload_n 0, 1) := by decide +kernel
theorem d_MO_begin_76 : decode b_MO_begin 76 = .ok (.getfield 56, 3) := by decide +kernel
theorem d_MO_begin_79 : decode b_MO_begin 79 = .ok (.iload_n 1, 1) := by decide +kernel
theorem d_MO_begin_80 : decode b_MO_begin 80 = .ok (.iload_n 3, 1) := by decide +kernel
theorem d_MO_begin_81 : decode b_MO_begin 81 = .ok (.iastore, 1) := by decide +kernel
theorem d_MO_begin_82 : decode b_MO_begin 82 = .ok (.aload_n 0, 1) := by decide +kernel
theorem d_MO_begin_83 : decode b_MO_begin 83 = .ok (.getfield 59, 3) := by decide +kernel
theorem d_MO_begin_86 : decode b_MO_begin 86 = .ok (.iload_n 1, 1) := by decide +kernel
theorem d_MO_begin_87 : decode b_MO_begin 87 = .ok (.iconst 0, 1) := by decide +kernel
theorem d_MO_begin_88 : decode b_MO_begin 88 = .ok (.iastore, 1) := by decide +kernel
theorem d_MO_begin_89 : decode b_MO_begin 89 = .ok (.aload_n 0, 1) := by decide +kernel
theorem d_MO_begin_90 : decode b_MO_begin 90 = .ok (.getfield 62, 3) := by decide +kernel
theorem d_MO_begin_93 : decode b_MO_begin 93 = .ok (.iload_n 1, 1) := by decide +kernel
theorem d_MO_begin_94 : decode b_MO_begin 94 = .ok (.iload 4, 2) := by decide +kernel
theorem d_MO_begin_96 : decode b_MO_begin 96 = .ok (.iastore, 1) := by decide +kernel
theorem d_MO_begin_97 : decode b_MO_begin 97 = .ok (.aload_n 0, 1) := by decide +kernel
theorem d_MO_begin_98 : decode b_MO_begin 98 = .ok (.getfield 65, 3) := by decide +kernel
theorem d_MO_begin_101 : decode b_MO_begin 101 = .ok (.iload_n 1, 1) := by decide +kernel
theorem d_MO_begin_102 : decode b_MO_begin 102 = .ok (.iconst (-1), 1) := by decide +kernel
theorem d_MO_begin_103 : decode b_MO_begin 103 = .ok (.iastore, 1) := by decide +kernel
theorem d_MO_begin_104 : decode b_MO_begin 104 = .ok (.aload_n 0, 1) := by decide +kernel
theorem d_MO_begin_105 : decode b_MO_begin 105 = .ok (.iload_n 1, 1) := by decide +kernel
theorem d_MO_begin_106 : decode b_MO_begin 106 = .ok (.invokevirtual 105, 3) := by decide +kernel
theorem d_MO_begin_109 : decode b_MO_begin 109 = .ok (.aload_n 0, 1) := by decide +kernel
theorem d_MO_begin_110 : decode b_MO_begin 110 = .ok (.iload_n 1, 1) := by decide +kernel
theorem d_MO_begin_111 : decode b_MO_begin 111 = .ok (.aload_n 0, 1) := by decide +kernel
theorem d_MO_begin_112 : decode b_MO_begin 112 = .ok (.getfield 108, 3) := by decide +kernel
theorem d_MO_begin_115 : decode b_MO_begin 115 = .ok (.invokevirtual 111, 3) := by decide +kernel
theorem d_MO_begin_118 : decode b_MO_begin 118 = .ok (.iload_n 2, 1) := by decide +kernel
theorem d_MO_begin_119 : decode b_MO_begin 119 = .ok (.iconst 3, 1) := by decide +kernel
theorem d_MO_begin_120 : decode b_MO_begin 120 = .ok (.if_icmp .ne 8, 3) := by decide +kernel
theorem d_MO_begin_123 : decode b_MO_begin 123 = .ok (.aload_n 0, 1) := by decide +kernel
theorem d_MO_begin_124 : decode b_MO_begin 124 = .ok (.iload_n 1, 1) := by decide +kernel
theorem d_MO_begin_125 : decode b_MO_begin 125 = .ok (.invokevirtual 123, 3) := by decide +kernel
theorem d_MO_begin_128 : decode b_MO_begin 128 = .ok (.return_, 1) := by decide +kernel
theorem d_MO_isTask_0 : decode b_MO_isTask 0 = .ok (.iload_n 1, 1) := by decide +kernel
theorem d_MO_isTask_1 : decode b_MO_isTask 1 = .ok (.iconst 0, 1) := by decide +kernel
theorem d_MO_isTask_2 : decode b_MO_isTask 2 = .ok (.iconst 3, 1) := by decide +kernel
theorem d_MO_isTask_3 : decode b_MO_isTask 3 = .ok (.invokestatic 101, 3) := by decide +kernel
theorem d_MO_isTask_6 : decode b_MO_isTask 6 = .ok (.ireturn, 1) := by decide +kernel
theorem d_MO_within_0 : decode b_MO_within 0 = .ok (.iload_n 0, 1) := by decide +kernel
theorem d_MO_within_1 : decode b_MO_within 1 = .ok (.iload_n 1, 1) := by decide +kernel
theorem d_MO_within_2 : decode b_MO_within 2 = .ok (.if_icmp .lt 12, 3) := by decide +kernel
theorem d_MO_within_5 : decode b_MO_within 5 = .ok (.iload_n 0, 1) := by decide +kernel
theorem d_MO_within_6 : decode b_MO_within 6 = .ok (.iload_n 2, 1) := by decide +kernel
theorem d_MO_within_7 : decode b_MO_within 7 = .ok (.if_icmp .gt 7, 3) := by decide +kernel
theorem d_MO_within_10 : decode b_MO_within 10 = .ok (.iconst 1, 1) := by decide +kernel
theorem d_MO_within_11 : decode b_MO_within 11 = .ok (.goto 4, 3) := by decide +kernel
theorem d_MO_within_14 : decode b_MO_within 14 = .ok (.iconst 0, 1) := by decide +kernel
theorem d_MO_within_15 : decode b_MO_within 15 = .ok (.ireturn, 1) := by decide +kernel
theorem d_MO_fails_0 : decode b_MO_fails 0 = .ok (.aload_n 0, 1) := by decide +kernel
theorem d_MO_fails_1 : decode b_MO_fails 1 = .ok (.iload_n 1, 1) := by decide +kernel
theorem d_MO_fails_2 : decode b_MO_fails 2 = .ok (.ifCond .eq 7, 3) := by decide +kernel
theorem d_MO_fails_5 : decode b_MO_fails 5 = .ok (.iload_n 2, 1) := by decide +kernel
theorem d_MO_fails_6 : decode b_MO_fails 6 = .ok (.goto 4, 3) := by decide +kernel
theorem d_MO_fails_9 : decode b_MO_fails 9 = .ok (.iconst 0, 1) := by decide +kernel
theorem d_MO_fails_10 : decode b_MO_fails 10 = .ok (.putfield 83, 3) := by decide +kernel
theorem d_MO_fails_13 : decode b_MO_fails 13 = .ok (.iload_n 1, 1) := by decide +kernel
theorem d_MO_fails_14 : decode b_MO_fails 14 = .ok (.ireturn, 1) := by decide +kernel
theorem d_MO_forgetPath_0 : decode b_MO_forgetPath 0 = .ok (.bipush 32, 2) := by decide +kernel
theorem d_MO_forgetPath_2 : decode b_MO_forgetPath 2 = .ok (.iload_n 1, 1) := by decide +kernel
theorem d_MO_forgetPath_3 : decode b_MO_forgetPath 3 = .ok (.imul, 1) := by decide +kernel
theorem d_MO_forgetPath_4 : decode b_MO_forgetPath 4 = .ok (.istore_n 2, 1) := by decide +kernel
theorem d_MO_forgetPath_5 : decode b_MO_forgetPath 5 = .ok (.iload_n 2, 1) := by decide +kernel
theorem d_MO_forgetPath_6 : decode b_MO_forgetPath 6 = .ok (.bipush 32, 2) := by decide +kernel
theorem d_MO_forgetPath_8 : decode b_MO_forgetPath 8 = .ok (.iload_n 1, 1) := by decide +kernel
theorem d_MO_forgetPath_9 : decode b_MO_forgetPath 9 = .ok (.imul, 1) := by decide +kernel
theorem d_MO_forgetPath_10 : decode b_MO_forgetPath 10 = .ok (.bipush 32, 2) := by decide +kernel
theorem d_MO_forgetPath_12 : decode b_MO_forgetPath 12 = .ok (.iadd, 1) := by decide +kernel
theorem d_MO_forgetPath_13 : decode b_MO_forgetPath 13 = .ok (.if_icmp .ge 16, 3) := by decide +kernel
theorem d_MO_forgetPath_16 : decode b_MO_forgetPath 16 = .ok (.aload_n 0, 1) := by decide +kernel
theorem d_MO_forgetPath_17 : decode b_MO_forgetPath 17 = .ok (.getfield 68, 3) := by decide +kernel
theorem d_MO_forgetPath_20 : decode b_MO_forgetPath 20 = .ok (.iload_n 2, 1) := by decide +kernel
theorem d_MO_forgetPath_21 : decode b_MO_forgetPath 21 = .ok (.iconst (-1), 1) := by decide +kernel
theorem d_MO_forgetPath_22 : decode b_MO_forgetPath 22 = .ok (.iastore, 1) := by decide +kernel
theorem d_MO_forgetPath_23 : decode b_MO_forgetPath 23 = .ok (.iinc 2 1, 3) := by decide +kernel
theorem d_MO_forgetPath_26 : decode b_MO_forgetPath 26 = .ok (.goto (-21), 3) := by decide +kernel
theorem d_MO_forgetPath_29 : decode b_MO_forgetPath 29 = .ok (.return_, 1) := by decide +kernel
theorem d_MO_search_0 : decode b_MO_search 0 = .ok (.aload_n 0, 1) := by decide +kernel
theorem d_MO_search_1 : decode b_MO_search 1 = .ok (.getfield 50, 3) := by decide +kernel
theorem d_MO_search_4 : decode b_MO_search 4 = .ok (.iload_n 1, 1) := by decide +kernel
theorem d_MO_search_5 : decode b_MO_search 5 = .ok (.iconst 0, 1) := by decide +kernel
theorem d_MO_search_6 : decode b_MO_search 6 = .ok (.iastore, 1) := by decide +kernel
theorem d_MO_search_7 : decode b_MO_search 7 = .ok (.aload_n 0, 1) := by decide +kernel
theorem d_MO_search_8 : decode b_MO_search 8 = .ok (.getfield 53, 3) := by decide +kernel
theorem d_MO_search_11 : decode b_MO_search 11 = .ok (.iload_n 1, 1) := by decide +kernel
theorem d_MO_search_12 : decode b_MO_search 12 = .ok (.iload_n 2, 1) := by decide +kernel
theorem d_MO_search_13 : decode b_MO_search 13 = .ok (.iastore, 1) := by decide +kernel
theorem d_MO_search_14 : decode b_MO_search 14 = .ok (.return_, 1) := by decide +kernel
theorem d_MO_beginJoin_0 : decode b_MO_beginJoin 0 = .ok (.aload_n 0, 1) := by decide +kernel
theorem d_MO_beginJoin_1 : decode b_MO_beginJoin 1 = .ok (.getfield 56, 3) := by decide +kernel
theorem d_MO_beginJoin_4 : decode b_MO_beginJoin 4 = .ok (.iload_n 1, 1) := by decide +kernel
theorem d_MO_beginJoin_5 : decode b_MO_beginJoin 5 = .ok (.iconst 0, 1) := by decide +kernel
theorem d_MO_beginJoin_6 : decode b_MO_beginJoin 6 = .ok (.iastore, 1) := by decide +kernel
theorem d_MO_beginJoin_7 : decode b_MO_beginJoin 7 = .ok (.aload_n 0, 1) := by decide +kernel
theorem d_MO_beginJoin_8 : decode b_MO_beginJoin 8 = .ok (.getfield 91, 3) := by decide +kernel
theorem d_MO_beginJoin_11 : decode b_MO_beginJoin 11 = .ok (.ifCond .ne 4, 3) := by decide +kernel
theorem d_MO_beginJoin_14 : decode b_MO_beginJoin 14 = .ok (.return_, 1) := by decide +kernel
theorem d_MO_beginJoin_15 : decode b_MO_beginJoin 15 = .ok (.aload_n 0, 1) := by decide +kernel
theorem d_MO_beginJoin_16 : decode b_MO_beginJoin 16 = .ok (.getfield 40, 3) := by decide +kernel
theorem d_MO_beginJoin_19 : decode b_MO_beginJoin 19 = .ok (.iconst 0, 1) := by decide +kernel
theorem d_MO_beginJoin_20 : decode b_MO_beginJoin 20 = .ok (.iaload, 1) := by decide +kernel
theorem d_MO_beginJoin_21 : decode b_MO_beginJoin 21 = .ok (.istore_n 2, 1) := by decide +kernel
theorem d_MO_beginJoin_22 : decode b_MO_beginJoin 22 = .ok (.aload_n 0, 1) := by decide +kernel
theorem d_MO_beginJoin_23 : decode b_MO_beginJoin 23 = .ok (.iload_n 2, 1) := by decide +kernel
theorem d_MO_beginJoin_24 : decode b_MO_beginJoin 24 = .ok (.invokevirtual 94, 3) := by decide +kernel
theorem d_MO_beginJoin_27 : decode b_MO_beginJoin 27 = .ok (.iload_n 2, 1) := by decide +kernel
theorem d_MO_beginJoin_28 : decode b_MO_beginJoin 28 = .ok (.aload_n 0, 1) := by decide +kernel
theorem d_MO_beginJoin_29 : decode b_MO_beginJoin 29 = .ok (.getfield 108, 3) := by decide +kernel
theorem d_MO_beginJoin_32 : decode b_MO_beginJoin 32 = .ok (.if_icmp .ne 4, 3) := by decide +kernel
theorem d_MO_beginJoin_35 : decode b_MO_beginJoin 35 = .ok (.return_, 1) := by decide +kernel
theorem d_MO_beginJoin_36 : decode b_MO_beginJoin 36 = .ok (.aload_n 0, 1) := by decide +kernel
theorem d_MO_beginJoin_37 : decode b_MO_beginJoin 37 = .ok (.getfield 65, 3) := by decide +kernel
theorem d_MO_beginJoin_40 : decode b_MO_beginJoin 40 = .ok (.iload_n 1, 1) := by decide +kernel
theorem d_MO_beginJoin_41 : decode b_MO_beginJoin 41 = .ok (.iload_n 2, 1) := by decide +kernel
theorem d_MO_beginJoin_42 : decode b_MO_beginJoin 42 = .ok (.iastore, 1) := by decide +kernel
theorem d_MO_beginJoin_43 : decode b_MO_beginJoin 43 = .ok (.aload_n 0, 1) := by decide +kernel
theorem d_MO_beginJoin_44 : decode b_MO_beginJoin 44 = .ok (.getfield 56, 3) := by decide +kernel
theorem d_MO_beginJoin_47 : decode b_MO_beginJoin 47 = .ok (.iload_n 1, 1) := by decide +kernel
theorem d_MO_beginJoin_48 : decode b_MO_beginJoin 48 = .ok (.aload_n 0, 1) := by decide +kernel
theorem d_MO_beginJoin_49 : decode b_MO_beginJoin 49 = .ok (.getfield 19, 3) := by decide +kernel
theorem d_MO_beginJoin_52 : decode b_MO_beginJoin 52 = .ok (.iload_n 2, 1) := by decide +kernel
theorem d_MO_beginJoin_53 : decode b_MO_beginJoin 53 = .ok (.iaload, 1) := by decide +kernel
theorem d_MO_beginJoin_54 : decode b_MO_beginJoin 54 = .ok (.iastore, 1) := by decide +kernel
theorem d_MO_beginJoin_55 : decode b_MO_beginJoin 55 = .ok (.aload_n 0, 1) := by decide +kernel
theorem d_MO_beginJoin_56 : decode b_MO_beginJoin 56 = .ok (.getfield 59, 3) := by decide +kernel
theorem d_MO_beginJoin_59 : decode b_MO_beginJoin 59 = .ok (.iload_n 1, 1) := by decide +kernel
theorem d_MO_beginJoin_60 : decode b_MO_beginJoin 60 = .ok (.aload_n 0, 1) := by decide +kernel
theorem d_MO_beginJoin_61 : decode b_MO_beginJoin 61 = .ok (.getfield 13, 3) := by decide +kernel
theorem d_MO_beginJoin_64 : decode b_MO_beginJoin 64 = .ok (.iload_n 2, 1) := by decide +kernel
theorem d_MO_beginJoin_65 : decode b_MO_beginJoin 65 = .ok (.iaload, 1) := by decide +kernel
theorem d_MO_beginJoin_66 : decode b_MO_beginJoin 66 = .ok (.iconst 1, 1) := by decide +kernel
theorem d_MO_beginJoin_67 : decode b_MO_beginJoin 67 = .ok (.iadd, 1) := by decide +kernel
theorem d_MO_beginJoin_68 : decode b_MO_beginJoin 68 = .ok (.iastore, 1) := by decide +kernel
theorem d_MO_beginJoin_69 : decode b_MO_beginJoin 69 = .ok (.return_, 1) := by decide +kernel
theorem d_MO_leaveQueue_0 : decode b_MO_leaveQueue 0 = .ok (.iconst 0, 1) := by decide +kernel
theorem d_MO_leaveQueue_1 : decode b_MO_leaveQueue 1 = .ok (.istore_n 2, 1) := by decide +kernel
theorem d_MO_leaveQueue_2 : decode b_MO_leaveQueue 2 = .ok (.iconst 0, 1) := by decide +kernel
theorem d_MO_leaveQueue_3 : decode b_MO_leaveQueue 3 = .ok (.istore_n 3, 1) := by decide +kernel
theorem d_MO_leaveQueue_4 : decode b_MO_leaveQueue 4 = .ok (.iload_n 3, 1) := by decide +kernel
theorem d_MO_leaveQueue_5 : decode b_MO_leaveQueue 5 = .ok (.aload_n 0, 1) := by decide +kernel
theorem d_MO_leaveQueue_6 : decode b_MO_leaveQueue 6 = .ok (.getfield 91, 3) := by decide +kernel
theorem d_MO_leaveQueue_9 : decode b_MO_leaveQueue 9 = .ok (.if_icmp .ge 37, 3) := by decide +kernel
theorem d_MO_leaveQueue_12 : decode b_MO_leaveQueue 12 = .ok (.aload_n 0, 1) := by decide +kernel
theorem d_MO_leaveQueue_13 : decode b_MO_leaveQueue 13 = .ok (.getfield 40, 3) := by decide +kernel
theorem d_MO_leaveQueue_16 : decode b_MO_leaveQueue 16 = .ok (.iload_n 3, 1) := by decide +kernel
theorem d_MO_leaveQueue_17 : decode b_MO_leaveQueue 17 = .ok (.iaload, 1) := by decide +kernel
theorem d_MO_leaveQueue_18 : decode b_MO_leaveQueue 18 = .ok (.iload_n 1, 1) := by decide +kernel
theorem d_MO_leaveQueue_19 : decode b_MO_leaveQueue 19 = .ok (.if_icmp .ne 6, 3) := by decide +kernel
theorem d_MO_leaveQueue_22 : decode b_MO_leaveQueue 22 = .ok (.goto 18, 3) := by decide +kernel
theorem d_MO_leaveQueue_25 : decode b_MO_leaveQueue 25 = .ok (.aload_n 0, 1) := by decide +kernel
theorem d_MO_leaveQueue_26 : decode b_MO_leaveQueue 26 = .ok (.getfield 40, 3) := by decide +kernel
theorem d_MO_leaveQueue_29 : decode b_MO_leaveQueue 29 = .ok (.iload_n 2, 1) := by decide +kernel
theorem d_MO_leaveQueue_30 : decode b_MO_leaveQueue 30 = .ok (.aload_n 0, 1) := by decide +kernel
theorem d_MO_leaveQueue_31 : decode b_MO_leaveQueue 31 = .ok (.getfield 40, 3) := by decide +kernel
theorem d_MO_leaveQueue_34 : decode b_MO_leaveQueue 34 = .ok (.iload_n 3, 1) := by decide +kernel
theorem d_MO_leaveQueue_35 : decode b_MO_leaveQueue 35 = .ok (.iaload, 1) := by decide +kernel
theorem d_MO_leaveQueue_36 : decode b_MO_leaveQueue 36 = .ok (.iastore, 1) := by decide +kernel
theorem d_MO_leaveQueue_37 : decode b_MO_leaveQueue 37 = .ok (.iinc 2 1, 3) := by decide +kernel
theorem d_MO_leaveQueue_40 : decode b_MO_leaveQueue 40 = .ok (.iinc 3 1, 3) := by decide +kernel
theorem d_MO_leaveQueue_43 : decode b_MO_leaveQueue 43 = .ok (.goto (-39), 3) := by decide +kernel
theorem d_MO_leaveQueue_46 : decode b_MO_leaveQueue 46 = .ok (.aload_n 0, 1) := by decide +kernel
theorem d_MO_leaveQueue_47 : decode b_MO_leaveQueue 47 = .ok (.iload_n 2, 1) := by decide +kernel
theorem d_MO_leaveQueue_48 : decode b_MO_leaveQueue 48 = .ok (.putfield 91, 3) := by decide +kernel
theorem d_MO_leaveQueue_51 : decode b_MO_leaveQueue 51 = .ok (.return_, 1) := by decide +kernel
theorem d_MO_step_0 : decode b_MO_step 0 = .ok (.aload_n 0, 1) := by decide +kernel
theorem d_MO_step_1 : decode b_MO_step 1 = .ok (.aload_n 0, 1) := by decide +kernel
theorem d_MO_step_2 : decode b_MO_step 2 = .ok (.iload_n 1, 1) := by decide +kernel
theorem d_MO_step_3 : decode b_MO_step 3 = .ok (.invokevirtual 115, 3) := by decide +kernel
theorem d_MO_step_6 : decode b_MO_step 6 = .ok (.ifCond .ne 7, 3) := by decide +kernel
theorem d_MO_step_9 : decode b_MO_step 9 = .ok (.iconst 1, 1) := by decide +kernel
theorem d_MO_step_10 : decode b_MO_step 10 = .ok (.goto 4, 3) := by decide +kernel
theorem d_MO_step_13 : decode b_MO_step 13 = .ok (.iconst 0, 1) := by decide +kernel
theorem d_MO_step_14 : decode b_MO_step 14 = .ok (.iconst 1, 1) := by decide +kernel
theorem d_MO_step_15 : decode b_MO_step 15 = .ok (.invokevirtual 119, 3) := by decide +kernel
theorem d_MO_step_18 : decode b_MO_step 18 = .ok (.ifCond .ne 25, 3) := by decide +kernel
theorem d_MO_step_21 : decode b_MO_step 21 = .ok (.aload_n 0, 1) := by decide +kernel
theorem d_MO_step_22 : decode b_MO_step 22 = .ok (.aload_n 0, 1) := by decide +kernel
theorem d_MO_step_23 : decode b_MO_step 23 = .ok (.getfield 43, 3) := by decide +kernel
theorem d_MO_step_26 : decode b_MO_step 26 = .ok (.iload_n 1, 1) := by decide +kernel
theorem d_MO_step_27 : decode b_MO_step 27 = .ok (.baload, 1) := by decide +kernel
theorem d_MO_step_28 : decode b_MO_step 28 = .ok (.ifCond .ne 7, 3) := by decide +kernel
theorem d_MO_step_31 : decode b_MO_step 31 = .ok (.iconst 1, 1) := by decide +kernel
theorem d_MO_step_32 : decode b_MO_step 32 = .ok (.goto 4, 3) := by decide +kernel
theorem d_MO_step_35 : decode b_MO_step 35 = .ok (.iconst 0, 1) := by decide +kernel
theorem d_MO_step_36 : decode b_MO_step 36 = .ok (.iconst 2, 1) := by decide +kernel
theorem d_MO_step_37 : decode b_MO_step 37 = .ok (.invokevirtual 119, 3) := by decide +kernel
theorem d_MO_step_40 : decode b_MO_step 40 = .ok (.ifCond .eq 5, 3) := by decide +kernel
theorem d_MO_step_43 : decode b_MO_step 43 = .ok (.iconst 0, 1) := by decide +kernel
theorem d_MO_step_44 : decode b_MO_step 44 = .ok (.ireturn, 1) := by decide +kernel
theorem d_MO_step_45 : decode b_MO_step 45 = .ok (.aload_n 0, 1) := by decide +kernel
theorem d_MO_step_46 : decode b_MO_step 46 = .ok (.getfield 50, 3) := by decide +kernel
theorem d_MO_step_49 : decode b_MO_step 49 = .ok (.iload_n 1, 1) := by decide +kernel
theorem d_MO_step_50 : decode b_MO_step 50 = .ok (.iaload, 1) := by decide +kernel
theorem d_MO_step_51 : decode b_MO_step 51 = .ok (.ifCond .ne 11, 3) := by decide +kernel
theorem d_MO_step_54 : decode b_MO_step 54 = .ok (.aload_n 0, 1) := by decide +kernel
theorem d_MO_step_55 : decode b_MO_step 55 = .ok (.iload_n 1, 1) := by decide +kernel
theorem d_MO_step_56 : decode b_MO_step 56 = .ok (.invokevirtual 170, 3) := by decide +kernel
theorem d_MO_step_59 : decode b_MO_step 59 = .ok (.goto 26, 3) := by decide +kernel
theorem d_MO_step_62 : decode b_MO_step 62 = .ok (.aload_n 0, 1) := by decide +kernel
theorem d_MO_step_63 : decode b_MO_step 63 = .ok (.getfield 50, 3) := by decide +kernel
theorem d_MO_step_66 : decode b_MO_step 66 = .ok (.iload_n 1, 1) := by decide +kernel
theorem d_MO_step_67 : decode b_MO_step 67 = .ok (.iaload, 1) := by decide +kernel
theorem d_MO_step_68 : decode b_MO_step 68 = .ok (.iconst 1, 1) := by decide +kernel
theorem d_MO_step_69 : decode b_MO_step 69 = .ok (.if_icmp .ne 11, 3) := by decide +kernel
theorem d_MO_step_72 : decode b_MO_step 72 = .ok (.aload_n 0, 1) := by decide +kernel
theorem d_MO_step_73 : decode b_MO_step 73 = .ok (.iload_n 1, 1) := by decide +kernel
theorem d_MO_step_74 : decode b_MO_step 74 = .ok (.invokevirtual 173, 3) := by decide +kernel
theorem d_MO_step_77 : decode b_MO_step 77 = .ok (.goto 8, 3) := by decide +kernel
theorem d_MO_step_80 : decode b_MO_step 80 = .ok (.aload_n 0, 1) := by decide +kernel
theorem d_MO_step_81 : decode b_MO_step 81 = .ok (.iload_n 1, 1) := by decide +kernel
theorem d_MO_step_82 : decode b_MO_step 82 = .ok (.invokevirtual 176, 3) := by decide +kernel
theorem d_MO_step_85 : decode b_MO_step 85 = .ok (.istore_n 2, 1) := by decide +kernel
theorem d_MO_step_86 : decode b_MO_step 86 = .ok (.aload_n 0, 1) := by decide +kernel
theorem d_MO_step_87 : decode b_MO_step 87 = .ok (.getfield 77, 3) := by decide +kernel
theorem d_MO_step_90 : decode b_MO_step 90 = .ok (.iconst 4, 1) := by decide +kernel
theorem d_MO_step_91 : decode b_MO_step 91 = .ok (.iload_n 1, 1) := by decide +kernel
theorem d_MO_step_92 : decode b_MO_step 92 = .ok (.imul, 1) := by decide +kernel
theorem d_MO_step_93 : decode b_MO_step 93 = .ok (.dup2, 1) := by decide +kernel
theorem d_MO_step_94 : decode b_MO_step 94 = .ok (.iaload, 1) := by decide +kernel
theorem d_MO_step_95 : decode b_MO_step 95 = .ok (.iconst 1, 1) := by decide +kernel
theorem d_MO_step_96 : decode b_MO_step 96 = .ok (.iadd, 1) := by decide +kernel
theorem d_MO_step_97 : decode b_MO_step 97 = .ok (.iastore, 1) := by decide +kernel
theorem d_MO_step_98 : decode b_MO_step 98 = .ok (.iload_n 2, 1) := by decide +kernel
theorem d_MO_step_99 : decode b_MO_step 99 = .ok (.iconst 1, 1) := by decide +kernel
theorem d_MO_step_100 : decode b_MO_step 100 = .ok (.if_icmp .ne 17, 3) := by decide +kernel
theorem d_MO_step_103 : decode b_MO_step 103 = .ok (.aload_n 0, 1) := by decide +kernel
theorem d_MO_step_104 : decode b_MO_step 104 = .ok (.getfield 77, 3) := by decide +kernel
theorem d_MO_step_107 : decode b_MO_step 107 = .ok (.iconst 4, 1) := by decide +kernel
theorem d_MO_step_108 : decode b_MO_step 108 = .ok (.iload_n 1, 1) := by decide +kernel
theorem d_MO_step_109 : decode b_MO_step 109 = .ok (.imul, 1) := by decide +kernel
theorem d_MO_step_110 : decode b_MO_step 110 = .ok (.iconst 1, 1) := by decide +kernel
theorem d_MO_step_111 : decode b_MO_step 111 = .ok (.iadd, 1) := by decide +kernel
theorem d_MO_step_112 : decode b_MO_step 112 = .ok (.dup2, 1) := by decide +kernel
theorem d_MO_step_113 : decode b_MO_step 113 = .ok (.iaload, 1) := by decide +kernel
theorem d_MO_step_114 : decode b_MO_step 114 = .ok (.iconst 1, 1) := by decide +kernel
theorem d_MO_step_115 : decode b_MO_step 115 = .ok (.iadd, 1) := by decide +kernel
theorem d_MO_step_116 : decode b_MO_step 116 = .ok (.iastore, 1) := by decide +kernel
theorem d_MO_step_117 : decode b_MO_step 117 = .ok (.iload_n 2, 1) := by decide +kernel
theorem d_MO_step_118 : decode b_MO_step 118 = .ok (.ireturn, 1) := by decide +kernel
theorem d_MO_searches_0 : decode b_MO_searches 0 = .ok (.aload_n 0, 1) := by decide +kernel
theorem d_MO_searches_1 : decode b_MO_searches 1 = .ok (.getfield 53, 3) := by decide +kernel
theorem d_MO_searches_4 : decode b_MO_searches 4 = .ok (.iload_n 1, 1) := by decide +kernel
theorem d_MO_searches_5 : decode b_MO_searches 5 = .ok (.iaload, 1) := by decide +kernel
theorem d_MO_searches_6 : decode b_MO_searches 6 = .ok (.istore_n 2, 1) := by decide +kernel
theorem d_MO_searches_7 : decode b_MO_searches 7 = .ok (.aload_n 0, 1) := by decide +kernel
theorem d_MO_searches_8 : decode b_MO_searches 8 = .ok (.getfield 47, 3) := by decide +kernel
theorem d_MO_searches_11 : decode b_MO_searches 11 = .ok (.iload_n 1, 1) := by decide +kernel
theorem d_MO_searches_12 : decode b_MO_searches 12 = .ok (.iaload, 1) := by decide +kernel
theorem d_MO_searches_13 : decode b_MO_searches 13 = .ok (.iconst 3, 1) := by decide +kernel
theorem d_MO_searches_14 : decode b_MO_searches 14 = .ok (.if_icmp .ne 20, 3) := by decide +kernel
theorem d_MO_searches_17 : decode b_MO_searches 17 = .ok (.aload_n 0, 1) := by decide +kernel
theorem d_MO_searches_18 : decode b_MO_searches 18 = .ok (.getfield 65, 3) := by decide +kernel
theorem d_MO_searches_21 : decode b_MO_searches 21 = .ok (.iload_n 1, 1) := by decide +kernel
theorem d_MO_searches_22 : decode b_MO_searches 22 = .ok (.iaload, 1) := by decide +kernel
theorem d_MO_searches_23 : decode b_MO_searches 23 = .ok (.iconst (-1), 1) := by decide +kernel
theorem d_MO_searches_24 : decode b_MO_searches 24 = .ok (.if_icmp .ne 10, 3) := by decide +kernel
theorem d_MO_searches_27 : decode b_MO_searches 27 = .ok (.aload_n 0, 1) := by decide +kernel
theorem d_MO_searches_28 : decode b_MO_searches 28 = .ok (.iload_n 1, 1) := by decide +kernel
theorem d_MO_searches_29 : decode b_MO_searches 29 = .ok (.iconst 0, 1) := by decide +kernel
theorem d_MO_searches_30 : decode b_MO_searches 30 = .ok (.invokevirtual 126, 3) := by decide +kernel
theorem d_MO_searches_33 : decode b_MO_searches 33 = .ok (.ireturn, 1) := by decide +kernel
theorem d_MO_searches_34 : decode b_MO_searches 34 = .ok (.aload_n 0, 1) := by decide +kernel
theorem d_MO_searches_35 : decode b_MO_searches 35 = .ok (.iload_n 1, 1) := by decide +kernel
theorem d_MO_searches_36 : decode b_MO_searches 36 = .ok (.invokevirtual 129, 3) := by decide +kernel
theorem d_MO_searches_39 : decode b_MO_searches 39 = .ok (.ifCond .eq 9, 3) := by decide +kernel
theorem d_MO_searches_42 : decode b_MO_searches 42 = .ok (.aload_n 0, 1) := by decide +kernel
theorem d_MO_searches_43 : decode b_MO_searches 43 = .ok (.iload_n 1, 1) := by decide +kernel
theorem d_MO_searches_44 : decode b_MO_searches 44 = .ok (.invokevirtual 132, 3) := by decide +kernel
theorem d_MO_searches_47 : decode b_MO_searches 47 = .ok (.ireturn, 1) := by decide +kernel
theorem d_MO_searches_48 : decode b_MO_searches 48 = .ok (.aload_n 0, 1) := by decide +kernel
theorem d_MO_searches_49 : decode b_MO_searches 49 = .ok (.getfield 19, 3) := by decide +kernel
theorem d_MO_searches_52 : decode b_MO_searches 52 = .ok (.iload_n 2, 1) := by decide +kernel
theorem d_MO_searches_53 : decode b_MO_searches 53 = .ok (.iaload, 1) := by decide +kernel
theorem d_MO_searches_54 : decode b_MO_searches 54 = .ok (.aload_n 0, 1) := by decide +kernel
theorem d_MO_searches_55 : decode b_MO_searches 55 = .ok (.getfield 56, 3) := by decide +kernel
theorem d_MO_searches_58 : decode b_MO_searches 58 = .ok (.iload_n 1, 1) := by decide +kernel
theorem d_MO_searches_59 : decode b_MO_searches 59 = .ok (.iaload, 1) := by decide +kernel
theorem d_MO_searches_60 : decode b_MO_searches 60 = .ok (.if_icmp .ge 11, 3) := by decide +kernel
theorem d_MO_searches_63 : decode b_MO_searches 63 = .ok (.aload_n 0, 1) := by decide +kernel
theorem d_MO_searches_64 : decode b_MO_searches 64 = .ok (.iload_n 1, 1) := by decide +kernel
theorem d_MO_searches_65 : decode b_MO_searches 65 = .ok (.invokevirtual 136, 3) := by decide +kernel
theorem d_MO_searches_68 : decode b_MO_searches 68 = .ok (.goto 145, 3) := by decide +kernel
theorem d_MO_searches_71 : decode b_MO_searches 71 = .ok (.aload_n 0, 1) := by decide +kernel
theorem d_MO_searches_72 : decode b_MO_searches 72 = .ok (.getfield 13, 3) := by decide +kernel
theorem d_MO_searches_75 : decode b_MO_searches 75 = .ok (.iload_n 2, 1) := by decide +kernel
theorem d_MO_searches_76 : decode b_MO_searches 76 = .ok (.iaload, 1) := by decide +kernel
theorem d_MO_searches_77 : decode b_MO_searches 77 = .ok (.aload_n 0, 1) := by decide +kernel
theorem d_MO_searches_78 : decode b_MO_searches 78 = .ok (.getfield 59, 3) := by decide +kernel
theorem d_MO_searches_81 : decode b_MO_searches 81 = .ok (.iload_n 1, 1) := by decide +kernel
theorem d_MO_searches_82 : decode b_MO_searches 82 = .ok (.iaload, 1) := by decide +kernel
theorem d_MO_searches_83 : decode b_MO_searches 83 = .ok (.if_icmp .le 49, 3) := by decide +kernel
theorem d_MO_searches_86 : decode b_MO_searches 86 = .ok (.aload_n 0, 1) := by decide +kernel
theorem d_MO_searches_87 : decode b_MO_searches 87 = .ok (.getfield 68, 3) := by decide +kernel
theorem d_MO_searches_90 : decode b_MO_searches 90 = .ok (.bipush 32, 2) := by decide +kernel
theorem d_MO_searches_92 : decode b_MO_searches 92 = .ok (.iload_n 1, 1) := by decide +kernel
theorem d_MO_searches_93 : decode b_MO_searches 93 = .ok (.imul, 1) := by decide +kernel
theorem d_MO_searches_94 : decode b_MO_searches 94 = .ok (.aload_n 0, 1) := by decide +kernel
theorem d_MO_searches_95 : decode b_MO_searches 95 = .ok (.getfield 13, 3) := by decide +kernel
theorem d_MO_searches_98 : decode b_MO_searches 98 = .ok (.iload_n 2, 1) := by decide +kernel
theorem d_MO_searches_99 : decode b_MO_searches 99 = .ok (.iaload, 1) := by decide +kernel
theorem d_MO_searches_100 : decode b_MO_searches 100 = .ok (.iadd, 1) := by decide +kernel
theorem d_MO_searches_101 : decode b_MO_searches 101 = .ok (.iload_n 2, 1) := by decide +kernel
theorem d_MO_searches_102 : decode b_MO_searches 102 = .ok (.iastore, 1) := by decide +kernel
theorem d_MO_searches_103 : decode b_MO_searches 103 = .ok (.aload_n 0, 1) := by decide +kernel
theorem d_MO_searches_104 : decode b_MO_searches 104 = .ok (.getfield 53, 3) := by decide +kernel
theorem d_MO_searches_107 : decode b_MO_searches 107 = .ok (.iload_n 1, 1) := by decide +kernel
theorem d_MO_searches_108 : decode b_MO_searches 108 = .ok (.aload_n 0, 1) := by decide +kernel
theorem d_MO_searches_109 : decode b_MO_searches 109 = .ok (.getfield 34, 3) := by decide +kernel
theorem d_MO_searches_112 : decode b_MO_searches 112 = .ok (.iconst 5, 1) := by decide +kernel
theorem d_MO_searches_113 : decode b_MO_searches 113 = .ok (.iload_n 2, 1) := by decide +kernel
theorem d_MO_searches_114 : decode b_MO_searches 114 = .ok (.imul, 1) := by decide +kernel
theorem d_MO_searches_115 : decode b_MO_searches 115 = .ok (.aload_n 0, 1) := by decide +kernel
theorem d_MO_searches_116 : decode b_MO_searches 116 = .ok (.iload_n 2, 1) := by decide +kernel
theorem d_MO_searches_117 : decode b_MO_searches 117 = .ok (.aload_n 0, 1) := by decide +kernel
theorem d_MO_searches_118 : decode b_MO_searches 118 = .ok (.getfield 56, 3) := by decide +kernel
theorem d_MO_searches_121 : decode b_MO_searches 121 = .ok (.iload_n 1, 1) := by decide +kernel
theorem d_MO_searches_122 : decode b_MO_searches 122 = .ok (.iaload, 1) := by decide +kernel
theorem d_MO_searches_123 : decode b_MO_searches 123 = .ok (.invokevirtual 87, 3) := by decide +kernel
theorem d_MO_searches_126 : decode b_MO_searches 126 = .ok (.iadd, 1) := by decide +kernel
theorem d_MO_searches_127 : decode b_MO_searches 127 = .ok (.iaload, 1) := by decide +kernel
theorem d_MO_searches_128 : decode b_MO_searches 128 = .ok (.iastore, 1) := by decide +kernel
theorem d_MO_searches_129 : decode b_MO_searches 129 = .ok (.goto 84, 3) := by decide +kernel
theorem d_MO_searches_132 : decode b_MO_searches 132 = .ok (.aload_n 0, 1) := by decide +kernel
theorem d_MO_searches_133 : decode b_MO_searches 133 = .ok (.getfield 13, 3) := by decide +kernel
theorem d_MO_searches_136 : decode b_MO_searches 136 = .ok (.iload_n 2, 1) := by decide +kernel
theorem d_MO_searches_137 : decode b_MO_searches 137 = .ok (.iaload, 1) := by decide +kernel
theorem d_MO_searches_138 : decode b_MO_searches 138 = .ok (.aload_n 0, 1) := by decide +kernel
theorem d_MO_searches_139 : decode b_MO_searches 139 = .ok (.getfield 59, 3) := by decide +kernel
theorem d_MO_searches_142 : decode b_MO_searches 142 = .ok (.iload_n 1, 1) := by decide +kernel
theorem d_MO_searches_143 : decode b_MO_searches 143 = .ok (.iaload, 1) := by decide +kernel
theorem d_MO_searches_144 : decode b_MO_searches 144 = .ok (.if_icmp .ge 9, 3) := by decide +kernel
theorem d_MO_searches_147 : decode b_MO_searches 147 = .ok (.aload_n 0, 1) := by decide +kernel
theorem d_MO_searches_148 : decode b_MO_searches 148 = .ok (.iload_n 1, 1) := by decide +kernel
theorem d_MO_searches_149 : decode b_MO_searches 149 = .ok (.invokevirtual 139, 3) := by decide +kernel
theorem d_MO_searches_152 : decode b_MO_searches 152 = .ok (.ireturn, 1) := by decide +kernel
theorem d_MO_searches_153 : decode b_MO_searches 153 = .ok (.aload_n 0, 1) := by decide +kernel
theorem d_MO_searches_154 : decode b_MO_searches 154 = .ok (.getfield 47, 3) := by decide +kernel
theorem d_MO_searches_157 : decode b_MO_searches 157 = .ok (.iload_n 1, 1) := by decide +kernel
theorem d_MO_searches_158 : decode b_MO_searches 158 = .ok (.iaload, 1) := by decide +kernel
theorem d_MO_searches_159 : decode b_MO_searches 159 = .ok (.ifCond .ne 47, 3) := by decide +kernel
theorem d_MO_searches_162 : decode b_MO_searches 162 = .ok (.aload_n 0, 1) := by decide +kernel
theorem d_MO_searches_163 : decode b_MO_searches 163 = .ok (.iload_n 1, 1) := by decide +kernel
theorem d_MO_searches_164 : decode b_MO_searches 164 = .ok (.aload_n 0, 1) := by decide +kernel
theorem d_MO_searches_165 : decode b_MO_searches 165 = .ok (.iload_n 2, 1) := by decide +kernel
theorem d_MO_searches_166 : decode b_MO_searches 166 = .ok (.aload_n 0, 1) := by decide +kernel
theorem d_MO_searches_167 : decode b_MO_searches 167 = .ok (.getfield 56, 3) := by decide +kernel
theorem d_MO_searches_170 : decode b_MO_searches 170 = .ok (.iload_n 1, 1) := by decide +kernel
theorem d_MO_searches_171 : decode b_MO_searches 171 = .ok (.iaload, 1) := by decide +kernel
theorem d_MO_searches_172 : decode b_MO_searches 172 = .ok (.invokevirtual 142, 3) := by decide +kernel
theorem d_MO_searches_175 : decode b_MO_searches 175 = .ok (.ifCond .eq 26, 3) := by decide +kernel
theorem d_MO_searches_178 : decode b_MO_searches 178 = .ok (.aload_n 0, 1) := by decide +kernel
theorem d_MO_searches_179 : decode b_MO_searches 179 = .ok (.getfield 34, 3) := by decide +kernel
theorem d_MO_searches_182 : decode b_MO_searches 182 = .ok (.iconst 5, 1) := by decide +kernel
theorem d_MO_searches_183 : decode b_MO_searches 183 = .ok (.iload_n 2, 1) := by decide +kernel
theorem d_MO_searches_184 : decode b_MO_searches 184 = .ok (.imul, 1) := by decide +kernel
theorem d_MO_searches_185 : decode b_MO_searches 185 = .ok (.aload_n 0, 1) := by decide +kernel
theorem d_MO_searches_186 : decode b_MO_searches 186 = .ok (.iload_n 2, 1) := by decide +kernel
theorem d_MO_searches_187 : decode b_MO_searches 187 = .ok (.aload_n 0, 1) := by decide +kernel
theorem d_MO_searches_188 : decode b_MO_searches 188 = .ok (.getfield 56, 3) := by decide +kernel
theorem d_MO_searches_191 : decode b_MO_searches 191 = .ok (.iload_n 1, 1) := by decide +kernel
theorem d_MO_searches_192 : decode b_MO_searches 192 = .ok (.iaload, 1) := by decide +kernel
theorem d_MO_searches_193 : decode b_MO_searches 193 = .ok (.invokevirtual 87, 3) := by decide +kernel
theorem d_MO_searches_196 : decode b_MO_searches 196 = .ok (.iadd, 1) := by decide +kernel
theorem d_MO_searches_197 : decode b_MO_searches 197 = .ok (.iaload, 1) := by decide +kernel
theorem d_MO_searches_198 : decode b_MO_searches 198 = .ok (.goto 4, 3) := by decide +kernel
theorem d_MO_searches_201 : decode b_MO_searches 201 = .ok (.iconst (-1), 1) := by decide +kernel
theorem d_MO_searches_202 : decode b_MO_searches 202 = .ok (.invokevirtual 126, 3) := by decide +kernel
theorem d_MO_searches_205 : decode b_MO_searches 205 = .ok (.ireturn, 1) := by decide +kernel
theorem d_MO_searches_206 : decode b_MO_searches 206 = .ok (.aload_n 0, 1) := by decide +kernel
theorem d_MO_searches_207 : decode b_MO_searches 207 = .ok (.getfield 50, 3) := by decide +kernel
theorem d_MO_searches_210 : decode b_MO_searches 210 = .ok (.iload_n 1, 1) := by decide +kernel
theorem d_MO_searches_211 : decode b_MO_searches 211 = .ok (.iconst 1, 1) := by decide +kernel
theorem d_MO_searches_212 : decode b_MO_searches 212 = .ok (.iastore, 1) := by decide +kernel
theorem d_MO_searches_213 : decode b_MO_searches 213 = .ok (.iconst 0, 1) := by decide +kernel
theorem d_MO_searches_214 : decode b_MO_searches 214 = .ok (.ireturn, 1) := by decide +kernel
theorem d_MO_finish_0 : decode b_MO_finish 0 = .ok (.aload_n 0, 1) := by decide +kernel
theorem d_MO_finish_1 : decode b_MO_finish 1 = .ok (.getfield 74, 3) := by decide +kernel
theorem d_MO_finish_4 : decode b_MO_finish 4 = .ok (.iload_n 1, 1) := by decide +kernel
theorem d_MO_finish_5 : decode b_MO_finish 5 = .ok (.iload_n 2, 1) := by decide +kernel
theorem d_MO_finish_6 : decode b_MO_finish 6 = .ok (.iastore, 1) := by decide +kernel
theorem d_MO_finish_7 : decode b_MO_finish 7 = .ok (.aload_n 0, 1) := by decide +kernel
theorem d_MO_finish_8 : decode b_MO_finish 8 = .ok (.getfield 71, 3) := by decide +kernel
theorem d_MO_finish_11 : decode b_MO_finish 11 = .ok (.iload_n 1, 1) := by decide +kernel
theorem d_MO_finish_12 : decode b_MO_finish 12 = .ok (.iconst 1, 1) := by decide +kernel
theorem d_MO_finish_13 : decode b_MO_finish 13 = .ok (.bastore, 1) := by decide +kernel
theorem d_MO_finish_14 : decode b_MO_finish 14 = .ok (.aload_n 0, 1) := by decide +kernel
theorem d_MO_finish_15 : decode b_MO_finish 15 = .ok (.getfield 43, 3) := by decide +kernel
theorem d_MO_finish_18 : decode b_MO_finish 18 = .ok (.iload_n 1, 1) := by decide +kernel
theorem d_MO_finish_19 : decode b_MO_finish 19 = .ok (.iconst 0, 1) := by decide +kernel
theorem d_MO_finish_20 : decode b_MO_finish 20 = .ok (.bastore, 1) := by decide +kernel
theorem d_MO_finish_21 : decode b_MO_finish 21 = .ok (.iconst 0, 1) := by decide +kernel
theorem d_MO_finish_22 : decode b_MO_finish 22 = .ok (.istore_n 3, 1) := by decide +kernel
theorem d_MO_finish_23 : decode b_MO_finish 23 = .ok (.iload_n 3, 1) := by decide +kernel
theorem d_MO_finish_24 : decode b_MO_finish 24 = .ok (.bipush 24, 2) := by decide +kernel
theorem d_MO_finish_26 : decode b_MO_finish 26 = .ok (.if_icmp .ge 28, 3) := by decide +kernel
theorem d_MO_finish_29 : decode b_MO_finish 29 = .ok (.aload_n 0, 1) := by decide +kernel
theorem d_MO_finish_30 : decode b_MO_finish 30 = .ok (.getfield 37, 3) := by decide +kernel
theorem d_MO_finish_33 : decode b_MO_finish 33 = .ok (.iload_n 3, 1) := by decide +kernel
theorem d_MO_finish_34 : decode b_MO_finish 34 = .ok (.dup2, 1) := by decide +kernel
theorem d_MO_finish_35 : decode b_MO_finish 35 = .ok (.iaload, 1) := by decide +kernel
theorem d_MO_finish_36 : decode b_MO_finish 36 = .ok (.iconst 1, 1) := by decide +kernel
theorem d_MO_finish_37 : decode b_MO_finish 37 = .ok (.iload_n 1, 1) := by decide +kernel
theorem d_MO_finish_38 : decode b_MO_finish 38 = .ok (.ishl, 1) := by decide +kernel
theorem d_MO_finish_39 : decode b_MO_finish 39 = .ok (.iconst (-1), 1) := by decide +kernel
theorem d_MO_finish_40 : decode b_MO_finish 40 = .ok (.ixor, 1) := by decide +kernel
theorem d_MO_finish_41 : decode b_MO_finish 41 = .ok (.iand, 1) := by decide +kernel
theorem d_MO_finish_42 : decode b_MO_finish 42 = .ok (.iastore, 1) := by decide +kernel
theorem d_MO_finish_43 : decode b_MO_finish 43 = .ok (.aload_n 0, 1) := by decide +kernel
theorem d_MO_finish_44 : decode b_MO_finish 44 = .ok (.iload_n 3, 1) := by decide +kernel
theorem d_MO_finish_45 : decode b_MO_finish 45 = .ok (.invokevirtual 98, 3) := by decide +kernel
theorem d_MO_finish_48 : decode b_MO_finish 48 = .ok (.iinc 3 1, 3) := by decide +kernel
theorem d_MO_finish_51 : decode b_MO_finish 51 = .ok (.goto (-28), 3) := by decide +kernel
theorem d_MO_finish_54 : decode b_MO_finish 54 = .ok (.iconst 2, 1) := by decide +kernel
theorem d_MO_finish_55 : decode b_MO_finish 55 = .ok (.ireturn, 1) := by decide +kernel
theorem d_MO_release_0 : decode b_MO_release 0 = .ok (.aload_n 0, 1) := by decide +kernel
theorem d_MO_release_1 : decode b_MO_release 1 = .ok (.getfield 7, 3) := by decide +kernel
theorem d_MO_release_4 : decode b_MO_release 4 = .ok (.iload_n 1, 1) := by decide +kernel
theorem d_MO_release_5 : decode b_MO_release 5 = .ok (.iaload, 1) := by decide +kernel
theorem d_MO_release_6 : decode b_MO_release 6 = .ok (.iconst 2, 1) := by decide +kernel
theorem d_MO_release_7 : decode b_MO_release 7 = .ok (.if_icmp .ne 19, 3) := by decide +kernel
theorem d_MO_release_10 : decode b_MO_release 10 = .ok (.aload_n 0, 1) := by decide +kernel
theorem d_MO_release_11 : decode b_MO_release 11 = .ok (.getfield 37, 3) := by decide +kernel
theorem d_MO_release_14 : decode b_MO_release 14 = .ok (.iload_n 1, 1) := by decide +kernel
theorem d_MO_release_15 : decode b_MO_release 15 = .ok (.iaload, 1) := by decide +kernel
theorem d_MO_release_16 : decode b_MO_release 16 = .ok (.ifCond .ne 10, 3) := by decide +kernel
theorem d_MO_release_19 : decode b_MO_release 19 = .ok (.aload_n 0, 1) := by decide +kernel
theorem d_MO_release_20 : decode b_MO_release 20 = .ok (.getfield 7, 3) := by decide +kernel
theorem d_MO_release_23 : decode b_MO_release 23 = .ok (.iload_n 1, 1) := by decide +kernel
theorem d_MO_release_24 : decode b_MO_release 24 = .ok (.iconst 0, 1) := by decide +kernel
theorem d_MO_release_25 : decode b_MO_release 25 = .ok (.iastore, 1) := by decide +kernel
theorem d_MO_release_26 : decode b_MO_release 26 = .ok (.return_, 1) := by decide +kernel
theorem d_MO_isLost_0 : decode b_MO_isLost 0 = .ok (.aload_n 0, 1) := by decide +kernel
theorem d_MO_isLost_1 : decode b_MO_isLost 1 = .ok (.getfield 53, 3) := by decide +kernel
theorem d_MO_isLost_4 : decode b_MO_isLost 4 = .ok (.iload_n 1, 1) := by decide +kernel
theorem d_MO_isLost_5 : decode b_MO_isLost 5 = .ok (.iaload, 1) := by decide +kernel
theorem d_MO_isLost_6 : decode b_MO_isLost 6 = .ok (.istore_n 2, 1) := by decide +kernel
theorem d_MO_isLost_7 : decode b_MO_isLost 7 = .ok (.aload_n 0, 1) := by decide +kernel
theorem d_MO_isLost_8 : decode b_MO_isLost 8 = .ok (.getfield 7, 3) := by decide +kernel
theorem d_MO_isLost_11 : decode b_MO_isLost 11 = .ok (.iload_n 2, 1) := by decide +kernel
theorem d_MO_isLost_12 : decode b_MO_isLost 12 = .ok (.iaload, 1) := by decide +kernel
theorem d_MO_isLost_13 : decode b_MO_isLost 13 = .ok (.iconst 1, 1) := by decide +kernel
theorem d_MO_isLost_14 : decode b_MO_isLost 14 = .ok (.if_icmp .ne 18, 3) := by decide +kernel
theorem d_MO_isLost_17 : decode b_MO_isLost 17 = .ok (.aload_n 0, 1) := by decide +kernel
theorem d_MO_isLost_18 : decode b_MO_isLost 18 = .ok (.getfield 16, 3) := by decide +kernel
theorem d_MO_isLost_21 : decode b_MO_isLost 21 = .ok (.iload_n 2, 1) := by decide +kernel
theorem d_MO_isLost_22 : decode b_MO_isLost 22 = .ok (.iaload, 1) := by decide +kernel
theorem d_MO_isLost_23 : decode b_MO_isLost 23 = .ok (.aload_n 0, 1) := by decide +kernel
theorem d_MO_isLost_24 : decode b_MO_isLost 24 = .ok (.getfield 56, 3) := by decide +kernel
theorem d_MO_isLost_27 : decode b_MO_isLost 27 = .ok (.iload_n 1, 1) := by decide +kernel
theorem d_MO_isLost_28 : decode b_MO_isLost 28 = .ok (.iaload, 1) := by decide +kernel
theorem d_MO_isLost_29 : decode b_MO_isLost 29 = .ok (.if_icmp .lt 7, 3) := by decide +kernel
theorem d_MO_isLost_32 : decode b_MO_isLost 32 = .ok (.iconst 1, 1) := by decide +kernel
theorem d_MO_isLost_33 : decode b_MO_isLost 33 = .ok (.goto 4, 3) := by decide +kernel
theorem d_MO_isLost_36 : decode b_MO_isLost 36 = .ok (.iconst 0, 1) := by decide +kernel
theorem d_MO_isLost_37 : decode b_MO_isLost 37 = .ok (.ireturn, 1) := by decide +kernel
theorem d_MO_restart_0 : decode b_MO_restart 0 = .ok (.aload_n 0, 1) := by decide +kernel
theorem d_MO_restart_1 : decode b_MO_restart 1 = .ok (.iload_n 1, 1) := by decide +kernel
theorem d_MO_restart_2 : decode b_MO_restart 2 = .ok (.invokevirtual 105, 3) := by decide +kernel
theorem d_MO_restart_5 : decode b_MO_restart 5 = .ok (.aload_n 0, 1) := by decide +kernel
theorem d_MO_restart_6 : decode b_MO_restart 6 = .ok (.iload_n 1, 1) := by decide +kernel
theorem d_MO_restart_7 : decode b_MO_restart 7 = .ok (.aload_n 0, 1) := by decide +kernel
theorem d_MO_restart_8 : decode b_MO_restart 8 = .ok (.getfield 108, 3) := by decide +kernel
theorem d_MO_restart_11 : decode b_MO_restart 11 = .ok (.invokevirtual 111, 3) := by decide +kernel
theorem d_MO_restart_14 : decode b_MO_restart 14 = .ok (.aload_n 0, 1) := by decide +kernel
theorem d_MO_restart_15 : decode b_MO_restart 15 = .ok (.getfield 77, 3) := by decide +kernel
theorem d_MO_restart_18 : decode b_MO_restart 18 = .ok (.iconst 4, 1) := by decide +kernel
theorem d_MO_restart_19 : decode b_MO_restart 19 = .ok (.iload_n 1, 1) := by decide +kernel
theorem d_MO_restart_20 : decode b_MO_restart 20 = .ok (.imul, 1) := by decide +kernel
theorem d_MO_restart_21 : decode b_MO_restart 21 = .ok (.iconst 3, 1) := by decide +kernel
theorem d_MO_restart_22 : decode b_MO_restart 22 = .ok (.iadd, 1) := by decide +kernel
theorem d_MO_restart_23 : decode b_MO_restart 23 = .ok (.dup2, 1) := by decide +kernel
theorem d_MO_restart_24 : decode b_MO_restart 24 = .ok (.iaload, 1) := by decide +kernel
theorem d_MO_restart_25 : decode b_MO_restart 25 = .ok (.iconst 1, 1) := by decide +kernel
theorem d_MO_restart_26 : decode b_MO_restart 26 = .ok (.iadd, 1) := by decide +kernel
theorem d_MO_restart_27 : decode b_MO_restart 27 = .ok (.iastore, 1) := by decide +kernel
theorem d_MO_restart_28 : decode b_MO_restart 28 = .ok (.iconst 0, 1) := by decide +kernel
theorem d_MO_restart_29 : decode b_MO_restart 29 = .ok (.ireturn, 1) := by decide +kernel
theorem d_MO_goRight_0 : decode b_MO_goRight 0 = .ok (.aload_n 0, 1) := by decide +kernel
theorem d_MO_goRight_1 : decode b_MO_goRight 1 = .ok (.getfield 53, 3) := by decide +kernel
theorem d_MO_goRight_4 : decode b_MO_goRight 4 = .ok (.iload_n 1, 1) := by decide +kernel
theorem d_MO_goRight_5 : decode b_MO_goRight 5 = .ok (.aload_n 0, 1) := by decide +kernel
theorem d_MO_goRight_6 : decode b_MO_goRight 6 = .ok (.getfield 22, 3) := by decide +kernel
theorem d_MO_goRight_9 : decode b_MO_goRight 9 = .ok (.aload_n 0, 1) := by decide +kernel
theorem d_MO_goRight_10 : decode b_MO_goRight 10 = .ok (.getfield 53, 3) := by decide +kernel
theorem d_MO_goRight_13 : decode b_MO_goRight 13 = .ok (.iload_n 1, 1) := by decide +kernel
theorem d_MO_goRight_14 : decode b_MO_goRight 14 = .ok (.iaload, 1) := by decide +kernel
theorem d_MO_goRight_15 : decode b_MO_goRight 15 = .ok (.iaload, 1) := by decide +kernel
theorem d_MO_goRight_16 : decode b_MO_goRight 16 = .ok (.iastore, 1) := by decide +kernel
theorem d_MO_goRight_17 : decode b_MO_goRight 17 = .ok (.aload_n 0, 1) := by decide +kernel
theorem d_MO_goRight_18 : decode b_MO_goRight 18 = .ok (.getfield 77, 3) := by decide +kernel
theorem d_MO_goRight_21 : decode b_MO_goRight 21 = .ok (.iconst 4, 1) := by decide +kernel
theorem d_MO_goRight_22 : decode b_MO_goRight 22 = .ok (.iload_n 1, 1) := by decide +kernel
theorem d_MO_goRight_23 : decode b_MO_goRight 23 = .ok (.imul, 1) := by decide +kernel
theorem d_MO_goRight_24 : decode b_MO_goRight 24 = .ok (.iconst 2, 1) := by decide +kernel
theorem d_MO_goRight_25 : decode b_MO_goRight 25 = .ok (.iadd, 1) := by decide +kernel
theorem d_MO_goRight_26 : decode b_MO_goRight 26 = .ok (.dup2, 1) := by decide +kernel
theorem d_MO_goRight_27 : decode b_MO_goRight 27 = .ok (.iaload, 1) := by decide +kernel
theorem d_MO_goRight_28 : decode b_MO_goRight 28 = .ok (.iconst 1, 1) := by decide +kernel
theorem d_MO_goRight_29 : decode b_MO_goRight 29 = .ok (.iadd, 1) := by decide +kernel
theorem d_MO_goRight_30 : decode b_MO_goRight 30 = .ok (.iastore, 1) := by decide +kernel
theorem d_MO_goRight_31 : decode b_MO_goRight 31 = .ok (.return_, 1) := by decide +kernel
theorem d_MO_from_0 : decode b_MO_from 0 = .ok (.iconst 0, 1) := by decide +kernel
theorem d_MO_from_1 : decode b_MO_from 1 = .ok (.istore_n 3, 1) := by decide +kernel
theorem d_MO_from_2 : decode b_MO_from 2 = .ok (.iload_n 3, 1) := by decide +kernel
theorem d_MO_from_3 : decode b_MO_from 3 = .ok (.aload_n 0, 1) := by decide +kernel
theorem d_MO_from_4 : decode b_MO_from 4 = .ok (.getfield 25, 3) := by decide +kernel
theorem d_MO_from_7 : decode b_MO_from 7 = .ok (.iload_n 1, 1) := by decide +kernel
theorem d_MO_from_8 : decode b_MO_from 8 = .ok (.iaload, 1) := by decide +kernel
theorem d_MO_from_9 : decode b_MO_from 9 = .ok (.if_icmp .ge 23, 3) := by decide +kernel
theorem d_MO_from_12 : decode b_MO_from 12 = .ok (.aload_n 0, 1) := by decide +kernel
theorem d_MO_from_13 : decode b_MO_from 13 = .ok (.getfield 31, 3) := by decide +kernel
theorem d_MO_from_16 : decode b_MO_from 16 = .ok (.iconst 5, 1) := by decide +kernel
theorem d_MO_from_17 : decode b_MO_from 17 = .ok (.iload_n 1, 1) := by decide +kernel
theorem d_MO_from_18 : decode b_MO_from 18 = .ok (.imul, 1) := by decide +kernel
theorem d_MO_from_19 : decode b_MO_from 19 = .ok (.iload_n 3, 1) := by decide +kernel
theorem d_MO_from_20 : decode b_MO_from 20 = .ok (.iadd, 1) := by decide +kernel
theorem d_MO_from_21 : decode b_MO_from 21 = .ok (.iaload, 1) := by decide +kernel
theorem d_MO_from_22 : decode b_MO_from 22 = .ok (.iload_n 2, 1) := by decide +kernel
theorem d_MO_from_23 : decode b_MO_from 23 = .ok (.if_icmp .ge 9, 3) := by decide +kernel
theorem d_MO_from_26 : decode b_MO_from 26 = .ok (.iinc 3 1, 3) := by decide +kernel
theorem d_MO_from_29 : decode b_MO_from 29 = .ok (.goto (-27), 3) := by decide +kernel
theorem d_MO_from_32 : decode b_MO_from 32 = .ok (.iload_n 3, 1) := by decide +kernel
theorem d_MO_from_33 : decode b_MO_from 33 = .ok (.ireturn, 1) := by decide +kernel
theorem d_MO_rises_0 : decode b_MO_rises 0 = .ok (.aload_n 0, 1) := by decide +kernel
theorem d_MO_rises_1 : decode b_MO_rises 1 = .ok (.getfield 47, 3) := by decide +kernel
theorem d_MO_rises_4 : decode b_MO_rises 4 = .ok (.iload_n 1, 1) := by decide +kernel
theorem d_MO_rises_5 : decode b_MO_rises 5 = .ok (.iaload, 1) := by decide +kernel
theorem d_MO_rises_6 : decode b_MO_rises 6 = .ok (.iconst 3, 1) := by decide +kernel
theorem d_MO_rises_7 : decode b_MO_rises 7 = .ok (.if_icmp .ne 10, 3) := by decide +kernel
theorem d_MO_rises_10 : decode b_MO_rises 10 = .ok (.aload_n 0, 1) := by decide +kernel
theorem d_MO_rises_11 : decode b_MO_rises 11 = .ok (.iload_n 1, 1) := by decide +kernel
theorem d_MO_rises_12 : decode b_MO_rises 12 = .ok (.iconst 0, 1) := by decide +kernel
theorem d_MO_rises_13 : decode b_MO_rises 13 = .ok (.invokevirtual 126, 3) := by decide +kernel
theorem d_MO_rises_16 : decode b_MO_rises 16 = .ok (.ireturn, 1) := by decide +kernel
theorem d_MO_rises_17 : decode b_MO_rises 17 = .ok (.aload_n 0, 1) := by decide +kernel
theorem d_MO_rises_18 : decode b_MO_rises 18 = .ok (.getfield 13, 3) := by decide +kernel
theorem d_MO_rises_21 : decode b_MO_rises 21 = .ok (.aload_n 0, 1) := by decide +kernel
theorem d_MO_rises_22 : decode b_MO_rises 22 = .ok (.getfield 108, 3) := by decide +kernel
theorem d_MO_rises_25 : decode b_MO_rises 25 = .ok (.iaload, 1) := by decide +kernel
theorem d_MO_rises_26 : decode b_MO_rises 26 = .ok (.aload_n 0, 1) := by decide +kernel
theorem d_MO_rises_27 : decode b_MO_rises 27 = .ok (.getfield 59, 3) := by decide +kernel
theorem d_MO_rises_30 : decode b_MO_rises 30 = .ok (.iload_n 1, 1) := by decide +kernel
theorem d_MO_rises_31 : decode b_MO_rises 31 = .ok (.iaload, 1) := by decide +kernel
theorem d_MO_rises_32 : decode b_MO_rises 32 = .ok (.if_icmp .lt 9, 3) := by decide +kernel
theorem d_MO_rises_35 : decode b_MO_rises 35 = .ok (.aload_n 0, 1) := by decide +kernel
theorem d_MO_rises_36 : decode b_MO_rises 36 = .ok (.iload_n 1, 1) := by decide +kernel
theorem d_MO_rises_37 : decode b_MO_rises 37 = .ok (.invokevirtual 132, 3) := by decide +kernel
theorem d_MO_rises_40 : decode b_MO_rises 40 = .ok (.ireturn, 1) := by decide +kernel
theorem d_MO_rises_41 : decode b_MO_rises 41 = .ok (.aload_n 0, 1) := by decide +kernel
theorem d_MO_rises_42 : decode b_MO_rises 42 = .ok (.invokevirtual 146, 3) := by decide +kernel
theorem d_MO_rises_45 : decode b_MO_rises 45 = .ok (.istore_n 2, 1) := by decide +kernel
theorem d_MO_rises_46 : decode b_MO_rises 46 = .ok (.iload_n 2, 1) := by decide +kernel
theorem d_MO_rises_47 : decode b_MO_rises 47 = .ok (.iconst (-1), 1) := by decide +kernel
theorem d_MO_rises_48 : decode b_MO_rises 48 = .ok (.if_icmp .ne 10, 3) := by decide +kernel
theorem d_MO_rises_51 : decode b_MO_rises 51 = .ok (.aload_n 0, 1) := by decide +kernel
theorem d_MO_rises_52 : decode b_MO_rises 52 = .ok (.iload_n 1, 1) := by decide +kernel
theorem d_MO_rises_53 : decode b_MO_rises 53 = .ok (.iconst (-1), 1) := by decide +kernel
theorem d_MO_rises_54 : decode b_MO_rises 54 = .ok (.invokevirtual 126, 3) := by decide +kernel
theorem d_MO_rises_57 : decode b_MO_rises 57 = .ok (.ireturn, 1) := by decide +kernel
theorem d_MO_rises_58 : decode b_MO_rises 58 = .ok (.aload_n 0, 1) := by decide +kernel
theorem d_MO_rises_59 : decode b_MO_rises 59 = .ok (.iload_n 2, 1) := by decide +kernel
theorem d_MO_rises_60 : decode b_MO_rises 60 = .ok (.aload_n 0, 1) := by decide +kernel
theorem d_MO_rises_61 : decode b_MO_rises 61 = .ok (.getfield 13, 3) := by decide +kernel
theorem d_MO_rises_64 : decode b_MO_rises 64 = .ok (.aload_n 0, 1) := by decide +kernel
theorem d_MO_rises_65 : decode b_MO_rises 65 = .ok (.getfield 108, 3) := by decide +kernel
theorem d_MO_rises_68 : decode b_MO_rises 68 = .ok (.iaload, 1) := by decide +kernel
theorem d_MO_rises_69 : decode b_MO_rises 69 = .ok (.iconst 1, 1) := by decide +kernel
theorem d_MO_rises_70 : decode b_MO_rises 70 = .ok (.iadd, 1) := by decide +kernel
theorem d_MO_rises_71 : decode b_MO_rises 71 = .ok (.iconst (-1), 1) := by decide +kernel
theorem d_MO_rises_72 : decode b_MO_rises 72 = .ok (.sipush 999, 3) := by decide +kernel
theorem d_MO_rises_75 : decode b_MO_rises 75 = .ok (.iconst (-1), 1) := by decide +kernel
theorem d_MO_rises_76 : decode b_MO_rises 76 = .ok (.invokevirtual 150, 3) := by decide +kernel
theorem d_MO_rises_79 : decode b_MO_rises 79 = .ok (.aload_n 0, 1) := by decide +kernel
theorem d_MO_rises_80 : decode b_MO_rises 80 = .ok (.iload_n 2, 1) := by decide +kernel
theorem d_MO_rises_81 : decode b_MO_rises 81 = .ok (.sipush 999, 3) := by decide +kernel
theorem d_MO_rises_84 : decode b_MO_rises 84 = .ok (.aload_n 0, 1) := by decide +kernel
theorem d_MO_rises_85 : decode b_MO_rises 85 = .ok (.getfield 108, 3) := by decide +kernel
theorem d_MO_rises_88 : decode b_MO_rises 88 = .ok (.invokevirtual 154, 3) := by decide +kernel
theorem d_MO_rises_91 : decode b_MO_rises 91 = .ok (.aload_n 0, 1) := by decide +kernel
theorem d_MO_rises_92 : decode b_MO_rises 92 = .ok (.iload_n 2, 1) := by decide +kernel
theorem d_MO_rises_93 : decode b_MO_rises 93 = .ok (.putfield 108, 3) := by decide +kernel
theorem d_MO_rises_96 : decode b_MO_rises 96 = .ok (.aload_n 0, 1) := by decide +kernel
theorem d_MO_rises_97 : decode b_MO_rises 97 = .ok (.getfield 53, 3) := by decide +kernel
theorem d_MO_rises_100 : decode b_MO_rises 100 = .ok (.iload_n 1, 1) := by decide +kernel
theorem d_MO_rises_101 : decode b_MO_rises 101 = .ok (.iload_n 2, 1) := by decide +kernel
theorem d_MO_rises_102 : decode b_MO_rises 102 = .ok (.iastore, 1) := by decide +kernel
theorem d_MO_rises_103 : decode b_MO_rises 103 = .ok (.iconst 0, 1) := by decide +kernel
theorem d_MO_rises_104 : decode b_MO_rises 104 = .ok (.ireturn, 1) := by decide +kernel
theorem d_MO_freePage_0 : decode b_MO_freePage 0 = .ok (.iconst 0, 1) := by decide +kernel
theorem d_MO_freePage_1 : decode b_MO_freePage 1 = .ok (.istore_n 1, 1) := by decide +kernel
theorem d_MO_freePage_2 : decode b_MO_freePage 2 = .ok (.iload_n 1, 1) := by decide +kernel
theorem d_MO_freePage_3 : decode b_MO_freePage 3 = .ok (.bipush 24, 2) := by decide +kernel
theorem d_MO_freePage_5 : decode b_MO_freePage 5 = .ok (.if_icmp .ge 20, 3) := by decide +kernel
theorem d_MO_freePage_8 : decode b_MO_freePage 8 = .ok (.aload_n 0, 1) := by decide +kernel
theorem d_MO_freePage_9 : decode b_MO_freePage 9 = .ok (.getfield 7, 3) := by decide +kernel
theorem d_MO_freePage_12 : decode b_MO_freePage 12 = .ok (.iload_n 1, 1) := by decide +kernel
theorem d_MO_freePage_13 : decode b_MO_freePage 13 = .ok (.iaload, 1) := by decide +kernel
theorem d_MO_freePage_14 : decode b_MO_freePage 14 = .ok (.ifCond .ne 5, 3) := by decide +kernel
theorem d_MO_freePage_17 : decode b_MO_freePage 17 = .ok (.iload_n 1, 1) := by decide +kernel
theorem d_MO_freePage_18 : decode b_MO_freePage 18 = .ok (.ireturn, 1) := by decide +kernel
theorem d_MO_freePage_19 : decode b_MO_freePage 19 = .ok (.iinc 1 1, 3) := by decide +kernel
theorem d_MO_freePage_22 : decode b_MO_freePage 22 = .ok (.goto (-20), 3) := by decide +kernel
theorem d_MO_freePage_25 : decode b_MO_freePage 25 = .ok (.iconst (-1), 1) := by decide +kernel
theorem d_MO_freePage_26 : decode b_MO_freePage 26 = .ok (.ireturn, 1) := by decide +kernel
theorem d_MO_make_0 : decode b_MO_make 0 = .ok (.aload_n 0, 1) := by decide +kernel
theorem d_MO_make_1 : decode b_MO_make 1 = .ok (.getfield 7, 3) := by decide +kernel
theorem d_MO_make_4 : decode b_MO_make 4 = .ok (.iload_n 1, 1) := by decide +kernel
theorem d_MO_make_5 : decode b_MO_make 5 = .ok (.iconst 1, 1) := by decide +kernel
theorem d_MO_make_6 : decode b_MO_make 6 = .ok (.iastore, 1) := by decide +kernel
theorem d_MO_make_7 : decode b_MO_make 7 = .ok (.aload_n 0, 1) := by decide +kernel
theorem d_MO_make_8 : decode b_MO_make 8 = .ok (.getfield 13, 3) := by decide +kernel
theorem d_MO_make_11 : decode b_MO_make 11 = .ok (.iload_n 1, 1) := by decide +kernel
theorem d_MO_make_12 : decode b_MO_make 12 = .ok (.iload_n 2, 1) := by decide +kernel
theorem d_MO_make_13 : decode b_MO_make 13 = .ok (.iastore, 1) := by decide +kernel
theorem d_MO_make_14 : decode b_MO_make 14 = .ok (.aload_n 0, 1) := by decide +kernel
theorem d_MO_make_15 : decode b_MO_make 15 = .ok (.getfield 16, 3) := by decide +kernel
theorem d_MO_make_18 : decode b_MO_make 18 = .ok (.iload_n 1, 1) := by decide +kernel
theorem d_MO_make_19 : decode b_MO_make 19 = .ok (.iload_n 3, 1) := by decide +kernel
theorem d_MO_make_20 : decode b_MO_make 20 = .ok (.iastore, 1) := by decide +kernel
theorem d_MO_make_21 : decode b_MO_make 21 = .ok (.aload_n 0, 1) := by decide +kernel
theorem d_MO_make_22 : decode b_MO_make 22 = .ok (.getfield 19, 3) := by decide +kernel
theorem d_MO_make_25 : decode b_MO_make 25 = .ok (.iload_n 1, 1) := by decide +kernel
theorem d_MO_make_26 : decode b_MO_make 26 = .ok (.iload 4, 2) := by decide +kernel
theorem d_MO_make_28 : decode b_MO_make 28 = .ok (.iastore, 1) := by decide +kernel
theorem d_MO_make_29 : decode b_MO_make 29 = .ok (.aload_n 0, 1) := by decide +kernel
theorem d_MO_make_30 : decode b_MO_make 30 = .ok (.getfield 22, 3) := by decide +kernel
theorem d_MO_make_33 : decode b_MO_make 33 = .ok (.iload_n 1, 1) := by decide +kernel
theorem d_MO_make_34 : decode b_MO_make 34 = .ok (.iload 5, 2) := by decide +kernel
theorem d_MO_make_36 : decode b_MO_make 36 = .ok (.iastore, 1) := by decide +kernel
theorem d_MO_make_37 : decode b_MO_make 37 = .ok (.aload_n 0, 1) := by decide +kernel
theorem d_MO_make_38 : decode b_MO_make 38 = .ok (.getfield 25, 3) := by decide +kernel
theorem d_MO_make_41 : decode b_MO_make 41 = .ok (.iload_n 1, 1) := by decide +kernel
theorem d_MO_make_42 : decode b_MO_make 42 = .ok (.iconst 0, 1) := by decide +kernel
theorem d_MO_make_43 : decode b_MO_make 43 = .ok (.iastore, 1) := by decide +kernel
theorem d_MO_make_44 : decode b_MO_make 44 = .ok (.aload_n 0, 1) := by decide +kernel
theorem d_MO_make_45 : decode b_MO_make 45 = .ok (.getfield 28, 3) := by decide +kernel
theorem d_MO_make_48 : decode b_MO_make 48 = .ok (.iload_n 1, 1) := by decide +kernel
theorem d_MO_make_49 : decode b_MO_make 49 = .ok (.iconst (-1), 1) := by decide +kernel
theorem d_MO_make_50 : decode b_MO_make 50 = .ok (.iastore, 1) := by decide +kernel
theorem d_MO_make_51 : decode b_MO_make 51 = .ok (.return_, 1) := by decide +kernel
theorem d_MO_append_0 : decode b_MO_append 0 = .ok (.aload_n 0, 1) := by decide +kernel
theorem d_MO_append_1 : decode b_MO_append 1 = .ok (.getfield 31, 3) := by decide +kernel
theorem d_MO_append_4 : decode b_MO_append 4 = .ok (.iconst 5, 1) := by decide +kernel
theorem d_MO_append_5 : decode b_MO_append 5 = .ok (.iload_n 1, 1) := by decide +kernel
theorem d_MO_append_6 : decode b_MO_append 6 = .ok (.imul, 1) := by decide +kernel
theorem d_MO_append_7 : decode b_MO_append 7 = .ok (.aload_n 0, 1) := by decide +kernel
theorem d_MO_append_8 : decode b_MO_append 8 = .ok (.getfield 25, 3) := by decide +kernel
theorem d_MO_append_11 : decode b_MO_append 11 = .ok (.iload_n 1, 1) := by decide +kernel
theorem d_MO_append_12 : decode b_MO_append 12 = .ok (.iaload, 1) := by decide +kernel
theorem d_MO_append_13 : decode b_MO_append 13 = .ok (.iadd, 1) := by decide +kernel
theorem d_MO_append_14 : decode b_MO_append 14 = .ok (.iload_n 2, 1) := by decide +kernel
theorem d_MO_append_15 : decode b_MO_append 15 = .ok (.iastore, 1) := by decide +kernel
theorem d_MO_append_16 : decode b_MO_append 16 = .ok (.aload_n 0, 1) := by decide +kernel
theorem d_MO_append_17 : decode b_MO_append 17 = .ok (.getfield 34, 3) := by decide +kernel
theorem d_MO_append_20 : decode b_MO_append 20 = .ok (.iconst 5, 1) := by decide +kernel
theorem d_MO_append_21 : decode b_MO_append 21 = .ok (.iload_n 1, 1) := by decide +kernel
theorem d_MO_append_22 : decode b_MO_append 22 = .ok (.imul, 1) := by decide +kernel
theorem d_MO_append_23 : decode b_MO_append 23 = .ok (.aload_n 0, 1) := by decide +kernel
theorem d_MO_append_24 : decode b_MO_append 24 = .ok (.getfield 25, 3) := by decide +kernel
theorem d_MO_append_27 : decode b_MO_append 27 = .ok (.iload_n 1, 1) := by decide +kernel
theorem d_MO_append_28 : decode b_MO_append 28 = .ok (.iaload, 1) := by decide +kernel
theorem d_MO_append_29 : decode b_MO_append 29 = .ok (.iadd, 1) := by decide +kernel
theorem d_MO_append_30 : decode b_MO_append 30 = .ok (.iload_n 3, 1) := by decide +kernel
theorem d_MO_append_31 : decode b_MO_append 31 = .ok (.iastore, 1) := by decide +kernel
theorem d_MO_append_32 : decode b_MO_append 32 = .ok (.aload_n 0, 1) := by decide +kernel
theorem d_MO_append_33 : decode b_MO_append 33 = .ok (.getfield 25, 3) := by decide +kernel
theorem d_MO_append_36 : decode b_MO_append 36 = .ok (.iload_n 1, 1) := by decide +kernel
theorem d_MO_append_37 : decode b_MO_append 37 = .ok (.dup2, 1) := by decide +kernel
theorem d_MO_append_38 : decode b_MO_append 38 = .ok (.iaload, 1) := by decide +kernel
theorem d_MO_append_39 : decode b_MO_append 39 = .ok (.iconst 1, 1) := by decide +kernel
theorem d_MO_append_40 : decode b_MO_append 40 = .ok (.iadd, 1) := by decide +kernel
theorem d_MO_append_41 : decode b_MO_append 41 = .ok (.iastore, 1) := by decide +kernel
theorem d_MO_append_42 : decode b_MO_append 42 = .ok (.return_, 1) := by decide +kernel
theorem d_MO_has_0 : decode b_MO_has 0 = .ok (.aload_n 0, 1) := by decide +kernel
theorem d_MO_has_1 : decode b_MO_has 1 = .ok (.iload_n 1, 1) := by decide +kernel
theorem d_MO_has_2 : decode b_MO_has 2 = .ok (.iload_n 2, 1) := by decide +kernel
theorem d_MO_has_3 : decode b_MO_has 3 = .ok (.invokevirtual 87, 3) := by decide +kernel
theorem d_MO_has_6 : decode b_MO_has 6 = .ok (.istore_n 3, 1) := by decide +kernel
theorem d_MO_has_7 : decode b_MO_has 7 = .ok (.iload_n 3, 1) := by decide +kernel
theorem d_MO_has_8 : decode b_MO_has 8 = .ok (.aload_n 0, 1) := by decide +kernel
theorem d_MO_has_9 : decode b_MO_has 9 = .ok (.getfield 25, 3) := by decide +kernel
theorem d_MO_has_12 : decode b_MO_has 12 = .ok (.iload_n 1, 1) := by decide +kernel
theorem d_MO_has_13 : decode b_MO_has 13 = .ok (.iaload, 1) := by decide +kernel
theorem d_MO_has_14 : decode b_MO_has 14 = .ok (.if_icmp .ge 21, 3) := by decide +kernel
theorem d_MO_has_17 : decode b_MO_has 17 = .ok (.aload_n 0, 1) := by decide +kernel
theorem d_MO_has_18 : decode b_MO_has 18 = .ok (.getfield 31, 3) := by decide +kernel
theorem d_MO_has_21 : decode b_MO_has 21 = .ok (.iconst 5, 1) := by decide +kernel
theorem d_MO_has_22 : decode b_MO_has 22 = .ok (.iload_n 1, 1) := by decide +kernel
theorem d_MO_has_23 : decode b_MO_has 23 = .ok (.imul, 1) := by decide +kernel
theorem d_MO_has_24 : decode b_MO_has 24 = .ok (.iload_n 3, 1) := by decide +kernel
theorem d_MO_has_25 : decode b_MO_has 25 = .ok (.iadd, 1) := by decide +kernel
theorem d_MO_has_26 : decode b_MO_has 26 = .ok (.iaload, 1) := by decide +kernel
theorem d_MO_has_27 : decode b_MO_has 27 = .ok (.iload_n 2, 1) := by decide +kernel
theorem d_MO_has_28 : decode b_MO_has 28 = .ok (.if_icmp .ne 7, 3) := by decide +kernel
theorem d_MO_has_31 : decode b_MO_has 31 = .ok (.iconst 1, 1) := by decide +kernel
theorem d_MO_has_32 : decode b_MO_has 32 = .ok (.goto 4, 3) := by decide +kernel
theorem d_MO_has_35 : decode b_MO_has 35 = .ok (.iconst 0, 1) := by decide +kernel
theorem d_MO_has_36 : decode b_MO_has 36 = .ok (.ireturn, 1) := by decide +kernel
theorem d_MO_locks_0 : decode b_MO_locks 0 = .ok (.aload_n 0, 1) := by decide +kernel
theorem d_MO_locks_1 : decode b_MO_locks 1 = .ok (.getfield 53, 3) := by decide +kernel
theorem d_MO_locks_4 : decode b_MO_locks 4 = .ok (.iload_n 1, 1) := by decide +kernel
theorem d_MO_locks_5 : decode b_MO_locks 5 = .ok (.iaload, 1) := by decide +kernel
theorem d_MO_locks_6 : decode b_MO_locks 6 = .ok (.istore_n 2, 1) := by decide +kernel
theorem d_MO_locks_7 : decode b_MO_locks 7 = .ok (.aload_n 0, 1) := by decide +kernel
theorem d_MO_locks_8 : decode b_MO_locks 8 = .ok (.getfield 28, 3) := by decide +kernel
theorem d_MO_locks_11 : decode b_MO_locks 11 = .ok (.iload_n 2, 1) := by decide +kernel
theorem d_MO_locks_12 : decode b_MO_locks 12 = .ok (.iaload, 1) := by decide +kernel
theorem d_MO_locks_13 : decode b_MO_locks 13 = .ok (.iconst (-1), 1) := by decide +kernel
theorem d_MO_locks_14 : decode b_MO_locks 14 = .ok (.if_icmp .eq 5, 3) := by decide +kernel
theorem d_MO_locks_17 : decode b_MO_locks 17 = .ok (.iconst 1, 1) := by decide +kernel
theorem d_MO_locks_18 : decode b_MO_locks 18 = .ok (.ireturn, 1) := by decide +kernel
theorem d_MO_locks_19 : decode b_MO_locks 19 = .ok (.aload_n 0, 1) := by decide +kernel
theorem d_MO_locks_20 : decode b_MO_locks 20 = .ok (.getfield 28, 3) := by decide +kernel
theorem d_MO_locks_23 : decode b_MO_locks 23 = .ok (.iload_n 2, 1) := by decide +kernel
theorem d_MO_locks_24 : decode b_MO_locks 24 = .ok (.iload_n 1, 1) := by decide +kernel
theorem d_MO_locks_25 : decode b_MO_locks 25 = .ok (.iastore, 1) := by decide +kernel
theorem d_MO_locks_26 : decode b_MO_locks 26 = .ok (.aload_n 0, 1) := by decide +kernel
theorem d_MO_locks_27 : decode b_MO_locks 27 = .ok (.getfield 50, 3) := by decide +kernel
theorem d_MO_locks_30 : decode b_MO_locks 30 = .ok (.iload_n 1, 1) := by decide +kernel
theorem d_MO_locks_31 : decode b_MO_locks 31 = .ok (.iconst 2, 1) := by decide +kernel
theorem d_MO_locks_32 : decode b_MO_locks 32 = .ok (.iastore, 1) := by decide +kernel
theorem d_MO_locks_33 : decode b_MO_locks 33 = .ok (.iconst 0, 1) := by decide +kernel
theorem d_MO_locks_34 : decode b_MO_locks 34 = .ok (.ireturn, 1) := by decide +kernel
theorem d_MO_holds_0 : decode b_MO_holds 0 = .ok (.aload_n 0, 1) := by decide +kernel
theorem d_MO_holds_1 : decode b_MO_holds 1 = .ok (.getfield 53, 3) := by decide +kernel
theorem d_MO_holds_4 : decode b_MO_holds 4 = .ok (.iload_n 1, 1) := by decide +kernel
theorem d_MO_holds_5 : decode b_MO_holds 5 = .ok (.iaload, 1) := by decide +kernel
theorem d_MO_holds_6 : decode b_MO_holds 6 = .ok (.istore_n 2, 1) := by decide +kernel
theorem d_MO_holds_7 : decode b_MO_holds 7 = .ok (.iconst 0, 1) := by decide +kernel
theorem d_MO_holds_8 : decode b_MO_holds 8 = .ok (.istore_n 3, 1) := by decide +kernel
theorem d_MO_holds_9 : decode b_MO_holds 9 = .ok (.aload_n 0, 1) := by decide +kernel
theorem d_MO_holds_10 : decode b_MO_holds 10 = .ok (.iload_n 1, 1) := by decide +kernel
theorem d_MO_holds_11 : decode b_MO_holds 11 = .ok (.invokevirtual 129, 3) := by decide +kernel
theorem d_MO_holds_14 : decode b_MO_holds 14 = .ok (.ifCond .eq 12, 3) := by decide +kernel
theorem d_MO_holds_17 : decode b_MO_holds 17 = .ok (.aload_n 0, 1) := by decide +kernel
theorem d_MO_holds_18 : decode b_MO_holds 18 = .ok (.iload_n 1, 1) := by decide +kernel
theorem d_MO_holds_19 : decode b_MO_holds 19 = .ok (.invokevirtual 132, 3) := by decide +kernel
theorem d_MO_holds_22 : decode b_MO_holds 22 = .ok (.istore_n 3, 1) := by decide +kernel
theorem d_MO_holds_23 : decode b_MO_holds 23 = .ok (.goto 93, 3) := by decide +kernel
theorem d_MO_holds_26 : decode b_MO_holds 26 = .ok (.aload_n 0, 1) := by decide +kernel
theorem d_MO_holds_27 : decode b_MO_holds 27 = .ok (.getfield 19, 3) := by decide +kernel
theorem d_MO_holds_30 : decode b_MO_holds 30 = .ok (.iload_n 2, 1) := by decide +kernel
theorem d_MO_holds_31 : decode b_MO_holds 31 = .ok (.iaload, 1) := by decide +kernel
theorem d_MO_holds_32 : decode b_MO_holds 32 = .ok (.aload_n 0, 1) := by decide +kernel
theorem d_MO_holds_33 : decode b_MO_holds 33 = .ok (.getfield 56, 3) := by decide +kernel
theorem d_MO_holds_36 : decode b_MO_holds 36 = .ok (.iload_n 1, 1) := by decide +kernel
theorem d_MO_holds_37 : decode b_MO_holds 37 = .ok (.iaload, 1) := by decide +kernel
theorem d_MO_holds_38 : decode b_MO_holds 38 = .ok (.if_icmp .ge 18, 3) := by decide +kernel
theorem d_MO_holds_41 : decode b_MO_holds 41 = .ok (.aload_n 0, 1) := by decide +kernel
theorem d_MO_holds_42 : decode b_MO_holds 42 = .ok (.iload_n 1, 1) := by decide +kernel
theorem d_MO_holds_43 : decode b_MO_holds 43 = .ok (.invokevirtual 136, 3) := by decide +kernel
theorem d_MO_holds_46 : decode b_MO_holds 46 = .ok (.aload_n 0, 1) := by decide +kernel
theorem d_MO_holds_47 : decode b_MO_holds 47 = .ok (.getfield 50, 3) := by decide +kernel
theorem d_MO_holds_50 : decode b_MO_holds 50 = .ok (.iload_n 1, 1) := by decide +kernel
theorem d_MO_holds_51 : decode b_MO_holds 51 = .ok (.iconst 1, 1) := by decide +kernel
theorem d_MO_holds_52 : decode b_MO_holds 52 = .ok (.iastore, 1) := by decide +kernel
theorem d_MO_holds_53 : decode b_MO_holds 53 = .ok (.goto 63, 3) := by decide +kernel
theorem d_MO_holds_56 : decode b_MO_holds 56 = .ok (.aload_n 0, 1) := by decide +kernel
theorem d_MO_holds_57 : decode b_MO_holds 57 = .ok (.getfield 47, 3) := by decide +kernel
theorem d_MO_holds_60 : decode b_MO_holds 60 = .ok (.iload_n 1, 1) := by decide +kernel
theorem d_MO_holds_61 : decode b_MO_holds 61 = .ok (.iaload, 1) := by decide +kernel
theorem d_MO_holds_62 : decode b_MO_holds 62 = .ok (.istore 4, 2) := by decide +kernel
theorem d_MO_holds_64 : decode b_MO_holds 64 = .ok (.iload 4, 2) := by decide +kernel
theorem d_MO_holds_66 : decode b_MO_holds 66 = .ok (.iconst 1, 1) := by decide +kernel
theorem d_MO_holds_67 : decode b_MO_holds 67 = .ok (.if_icmp .ne 12, 3) := by decide +kernel
theorem d_MO_holds_70 : decode b_MO_holds 70 = .ok (.aload_n 0, 1) := by decide +kernel
theorem d_MO_holds_71 : decode b_MO_holds 71 = .ok (.iload_n 1, 1) := by decide +kernel
theorem d_MO_holds_72 : decode b_MO_holds 72 = .ok (.iload_n 2, 1) := by decide +kernel
theorem d_MO_holds_73 : decode b_MO_holds 73 = .ok (.invokevirtual 158, 3) := by decide +kernel
theorem d_MO_holds_76 : decode b_MO_holds 76 = .ok (.goto 39, 3) := by decide +kernel
theorem d_MO_holds_79 : decode b_MO_holds 79 = .ok (.iload 4, 2) := by decide +kernel
theorem d_MO_holds_81 : decode b_MO_holds 81 = .ok (.iconst 4, 1) := by decide +kernel
theorem d_MO_holds_82 : decode b_MO_holds 82 = .ok (.if_icmp .ne 12, 3) := by decide +kernel
theorem d_MO_holds_85 : decode b_MO_holds 85 = .ok (.aload_n 0, 1) := by decide +kernel
theorem d_MO_holds_86 : decode b_MO_holds 86 = .ok (.iload_n 1, 1) := by decide +kernel
theorem d_MO_holds_87 : decode b_MO_holds 87 = .ok (.iload_n 2, 1) := by decide +kernel
theorem d_MO_holds_88 : decode b_MO_holds 88 = .ok (.invokevirtual 161, 3) := by decide +kernel
theorem d_MO_holds_91 : decode b_MO_holds 91 = .ok (.goto 24, 3) := by decide +kernel
theorem d_MO_holds_94 : decode b_MO_holds 94 = .ok (.iload 4, 2) := by decide +kernel
theorem d_MO_holds_96 : decode b_MO_holds 96 = .ok (.iconst 2, 1) := by decide +kernel
theorem d_MO_holds_97 : decode b_MO_holds 97 = .ok (.if_icmp .ne 12, 3) := by decide +kernel
theorem d_MO_holds_100 : decode b_MO_holds 100 = .ok (.aload_n 0, 1) := by decide +kernel
theorem d_MO_holds_101 : decode b_MO_holds 101 = .ok (.iload_n 1, 1) := by decide +kernel
theorem d_MO_holds_102 : decode b_MO_holds 102 = .ok (.iload_n 2, 1) := by decide +kernel
theorem d_MO_holds_103 : decode b_MO_holds 103 = .ok (.invokevirtual 164, 3) := by decide +kernel
theorem d_MO_holds_106 : decode b_MO_holds 106 = .ok (.goto 9, 3) := by decide +kernel
theorem d_MO_holds_109 : decode b_MO_holds 109 = .ok (.aload_n 0, 1) := by decide +kernel
theorem d_MO_holds_110 : decode b_MO_holds 110 = .ok (.iload_n 1, 1) := by decide +kernel
theorem d_MO_holds_111 : decode b_MO_holds 111 = .ok (.iload_n 2, 1) := by decide +kernel
theorem d_MO_holds_112 : decode b_MO_holds 112 = .ok (.invokevirtual 167, 3) := by decide +kernel
theorem d_MO_holds_115 : decode b_MO_holds 115 = .ok (.istore_n 3, 1) := by decide +kernel
theorem d_MO_holds_116 : decode b_MO_holds 116 = .ok (.iload_n 3, 1) := by decide +kernel
theorem d_MO_holds_117 : decode b_MO_holds 117 = .ok (.iconst 1, 1) := by decide +kernel
theorem d_MO_holds_118 : decode b_MO_holds 118 = .ok (.if_icmp .eq 10, 3) := by decide +kernel
theorem d_MO_holds_121 : decode b_MO_holds 121 = .ok (.aload_n 0, 1) := by decide +kernel
theorem d_MO_holds_122 : decode b_MO_holds 122 = .ok (.getfield 28, 3) := by decide +kernel
theorem d_MO_holds_125 : decode b_MO_holds 125 = .ok (.iload_n 2, 1) := by decide +kernel
theorem d_MO_holds_126 : decode b_MO_holds 126 = .ok (.iconst (-1), 1) := by decide +kernel
theorem d_MO_holds_127 : decode b_MO_holds 127 = .ok (.iastore, 1) := by decide +kernel
theorem d_MO_holds_128 : decode b_MO_holds 128 = .ok (.iload_n 3, 1) := by decide +kernel
theorem d_MO_holds_129 : decode b_MO_holds 129 = .ok (.ireturn, 1) := by decide +kernel
theorem d_MO_puts_0 : decode b_MO_puts 0 = .ok (.aload_n 0, 1) := by decide +kernel
theorem d_MO_puts_1 : decode b_MO_puts 1 = .ok (.iload_n 2, 1) := by decide +kernel
theorem d_MO_puts_2 : decode b_MO_puts 2 = .ok (.aload_n 0, 1) := by decide +kernel
theorem d_MO_puts_3 : decode b_MO_puts 3 = .ok (.getfield 56, 3) := by decide +kernel
theorem d_MO_puts_6 : decode b_MO_puts 6 = .ok (.iload_n 1, 1) := by decide +kernel
theorem d_MO_puts_7 : decode b_MO_puts 7 = .ok (.iaload, 1) := by decide +kernel
theorem d_MO_puts_8 : decode b_MO_puts 8 = .ok (.invokevirtual 87, 3) := by decide +kernel
theorem d_MO_puts_11 : decode b_MO_puts 11 = .ok (.istore_n 3, 1) := by decide +kernel
theorem d_MO_puts_12 : decode b_MO_puts 12 = .ok (.aload_n 0, 1) := by decide +kernel
theorem d_MO_puts_13 : decode b_MO_puts 13 = .ok (.iload_n 2, 1) := by decide +kernel
theorem d_MO_puts_14 : decode b_MO_puts 14 = .ok (.aload_n 0, 1) := by decide +kernel
theorem d_MO_puts_15 : decode b_MO_puts 15 = .ok (.getfield 56, 3) := by decide +kernel
theorem d_MO_puts_18 : decode b_MO_puts 18 = .ok (.iload_n 1, 1) := by decide +kernel
theorem d_MO_puts_19 : decode b_MO_puts 19 = .ok (.iaload, 1) := by decide +kernel
theorem d_MO_puts_20 : decode b_MO_puts 20 = .ok (.invokevirtual 142, 3) := by decide +kernel
theorem d_MO_puts_23 : decode b_MO_puts 23 = .ok (.ifCond .eq 39, 3) := by decide +kernel
theorem d_MO_puts_26 : decode b_MO_puts 26 = .ok (.aload_n 0, 1) := by decide +kernel
theorem d_MO_puts_27 : decode b_MO_puts 27 = .ok (.getfield 34, 3) := by decide +kernel
theorem d_MO_puts_30 : decode b_MO_puts 30 = .ok (.iconst 5, 1) := by decide +kernel
theorem d_MO_puts_31 : decode b_MO_puts 31 = .ok (.iload_n 2, 1) := by decide +kernel
theorem d_MO_puts_32 : decode b_MO_puts 32 = .ok (.imul, 1) := by decide +kernel
theorem d_MO_puts_33 : decode b_MO_puts 33 = .ok (.iload_n 3, 1) := by decide +kernel
theorem d_MO_puts_34 : decode b_MO_puts 34 = .ok (.iadd, 1) := by decide +kernel
theorem d_MO_puts_35 : decode b_MO_puts 35 = .ok (.iaload, 1) := by decide +kernel
theorem d_MO_puts_36 : decode b_MO_puts 36 = .ok (.istore 4, 2) := by decide +kernel
theorem d_MO_puts_38 : decode b_MO_puts 38 = .ok (.aload_n 0, 1) := by decide +kernel
theorem d_MO_puts_39 : decode b_MO_puts 39 = .ok (.getfield 34, 3) := by decide +kernel
theorem d_MO_puts_42 : decode b_MO_puts 42 = .ok (.iconst 5, 1) := by decide +kernel
theorem d_MO_puts_43 : decode b_MO_puts 43 = .ok (.iload_n 2, 1) := by decide +kernel
theorem d_MO_puts_44 : decode b_MO_puts 44 = .ok (.imul, 1) := by decide +kernel
theorem d_MO_puts_45 : decode b_MO_puts 45 = .ok (.iload_n 3, 1) := by decide +kernel
theorem d_MO_puts_46 : decode b_MO_puts 46 = .ok (.iadd, 1) := by decide +kernel
theorem d_MO_puts_47 : decode b_MO_puts 47 = .ok (.aload_n 0, 1) := by decide +kernel
theorem d_MO_puts_48 : decode b_MO_puts 48 = .ok (.getfield 62, 3) := by decide +kernel
theorem d_MO_puts_51 : decode b_MO_puts 51 = .ok (.iload_n 1, 1) := by decide +kernel
theorem d_MO_puts_52 : decode b_MO_puts 52 = .ok (.iaload, 1) := by decide +kernel
theorem d_MO_puts_53 : decode b_MO_puts 53 = .ok (.iastore, 1) := by decide +kernel
theorem d_MO_puts_54 : decode b_MO_puts 54 = .ok (.aload_n 0, 1) := by decide +kernel
theorem d_MO_puts_55 : decode b_MO_puts 55 = .ok (.iload_n 1, 1) := by decide +kernel
theorem d_MO_puts_56 : decode b_MO_puts 56 = .ok (.iload 4, 2) := by decide +kernel
theorem d_MO_puts_58 : decode b_MO_puts 58 = .ok (.invokevirtual 126, 3) := by decide +kernel
theorem d_MO_puts_61 : decode b_MO_puts 61 = .ok (.ireturn, 1) := by decide +kernel
theorem d_MO_puts_62 : decode b_MO_puts 62 = .ok (.aload_n 0, 1) := by decide +kernel
theorem d_MO_puts_63 : decode b_MO_puts 63 = .ok (.getfield 25, 3) := by decide +kernel
theorem d_MO_puts_66 : decode b_MO_puts 66 = .ok (.iload_n 2, 1) := by decide +kernel
theorem d_MO_puts_67 : decode b_MO_puts 67 = .ok (.iaload, 1) := by decide +kernel
theorem d_MO_puts_68 : decode b_MO_puts 68 = .ok (.iconst 4, 1) := by decide +kernel
theorem d_MO_puts_69 : decode b_MO_puts 69 = .ok (.if_icmp .ne 19, 3) := by decide +kernel
theorem d_MO_puts_72 : decode b_MO_puts 72 = .ok (.aload_n 0, 1) := by decide +kernel
theorem d_MO_puts_73 : decode b_MO_puts 73 = .ok (.invokevirtual 146, 3) := by decide +kernel
theorem d_MO_puts_76 : decode b_MO_puts 76 = .ok (.iconst (-1), 1) := by decide +kernel
theorem d_MO_puts_77 : decode b_MO_puts 77 = .ok (.if_icmp .ne 11, 3) := by decide +kernel
theorem d_MO_puts_80 : decode b_MO_puts 80 = .ok (.aload_n 0, 1) := by decide +kernel
theorem d_MO_puts_81 : decode b_MO_puts 81 = .ok (.iload_n 1, 1) := by decide +kernel
theorem d_MO_puts_82 : decode b_MO_puts 82 = .ok (.bipush (-2), 2) := by decide +kernel
theorem d_MO_puts_84 : decode b_MO_puts 84 = .ok (.invokevirtual 126, 3) := by decide +kernel
theorem d_MO_puts_87 : decode b_MO_puts 87 = .ok (.ireturn, 1) := by decide +kernel
theorem d_MO_puts_88 : decode b_MO_puts 88 = .ok (.aload_n 0, 1) := by decide +kernel
theorem d_MO_puts_89 : decode b_MO_puts 89 = .ok (.iload_n 2, 1) := by decide +kernel
theorem d_MO_puts_90 : decode b_MO_puts 90 = .ok (.iload_n 3, 1) := by decide +kernel
theorem d_MO_puts_91 : decode b_MO_puts 91 = .ok (.aload_n 0, 1) := by decide +kernel
theorem d_MO_puts_92 : decode b_MO_puts 92 = .ok (.getfield 56, 3) := by decide +kernel
theorem d_MO_puts_95 : decode b_MO_puts 95 = .ok (.iload_n 1, 1) := by decide +kernel
theorem d_MO_puts_96 : decode b_MO_puts 96 = .ok (.iaload, 1) := by decide +kernel
theorem d_MO_puts_97 : decode b_MO_puts 97 = .ok (.aload_n 0, 1) := by decide +kernel
theorem d_MO_puts_98 : decode b_MO_puts 98 = .ok (.getfield 62, 3) := by decide +kernel
theorem d_MO_puts_101 : decode b_MO_puts 101 = .ok (.iload_n 1, 1) := by decide +kernel
theorem d_MO_puts_102 : decode b_MO_puts 102 = .ok (.iaload, 1) := by decide +kernel
theorem d_MO_puts_103 : decode b_MO_puts 103 = .ok (.invokevirtual 179, 3) := by decide +kernel
theorem d_MO_puts_106 : decode b_MO_puts 106 = .ok (.aload_n 0, 1) := by decide +kernel
theorem d_MO_puts_107 : decode b_MO_puts 107 = .ok (.getfield 25, 3) := by decide +kernel
theorem d_MO_puts_110 : decode b_MO_puts 110 = .ok (.iload_n 2, 1) := by decide +kernel
theorem d_MO_puts_111 : decode b_MO_puts 111 = .ok (.iaload, 1) := by decide +kernel
theorem d_MO_puts_112 : decode b_MO_puts 112 = .ok (.iconst 4, 1) := by decide +kernel
theorem d_MO_puts_113 : decode b_MO_puts 113 = .ok (.if_icmp .gt 10, 3) := by decide +kernel
theorem d_MO_puts_116 : decode b_MO_puts 116 = .ok (.aload_n 0, 1) := by decide +kernel
theorem d_MO_puts_117 : decode b_MO_puts 117 = .ok (.iload_n 1, 1) := by decide +kernel
theorem d_MO_puts_118 : decode b_MO_puts 118 = .ok (.iconst (-1), 1) := by decide +kernel
theorem d_MO_puts_119 : decode b_MO_puts 119 = .ok (.invokevirtual 126, 3) := by decide +kernel
theorem d_MO_puts_122 : decode b_MO_puts 122 = .ok (.ireturn, 1) := by decide +kernel
theorem d_MO_puts_123 : decode b_MO_puts 123 = .ok (.aload_n 0, 1) := by decide +kernel
theorem d_MO_puts_124 : decode b_MO_puts 124 = .ok (.iload_n 1, 1) := by decide +kernel
theorem d_MO_puts_125 : decode b_MO_puts 125 = .ok (.iload_n 2, 1) := by decide +kernel
theorem d_MO_puts_126 : decode b_MO_puts 126 = .ok (.invokevirtual 183, 3) := by decide +kernel
theorem d_MO_puts_129 : decode b_MO_puts 129 = .ok (.iconst 3, 1) := by decide +kernel
theorem d_MO_puts_130 : decode b_MO_puts 130 = .ok (.ireturn, 1) := by decide +kernel
theorem d_MO_insert_0 : decode b_MO_insert 0 = .ok (.iconst 5, 1) := by decide +kernel
theorem d_MO_insert_1 : decode b_MO_insert 1 = .ok (.iload_n 1, 1) := by decide +kernel
theorem d_MO_insert_2 : decode b_MO_insert 2 = .ok (.imul, 1) := by decide +kernel
theorem d_MO_insert_3 : decode b_MO_insert 3 = .ok (.aload_n 0, 1) := by decide +kernel
theorem d_MO_insert_4 : decode b_MO_insert 4 = .ok (.getfield 25, 3) := by decide +kernel
theorem d_MO_insert_7 : decode b_MO_insert 7 = .ok (.iload_n 1, 1) := by decide +kernel
theorem d_MO_insert_8 : decode b_MO_insert 8 = .ok (.iaload, 1) := by decide +kernel
theorem d_MO_insert_9 : decode b_MO_insert 9 = .ok (.iadd, 1) := by decide +kernel
theorem d_MO_insert_10 : decode b_MO_insert 10 = .ok (.istore 5, 2) := by decide +kernel
theorem d_MO_insert_12 : decode b_MO_insert 12 = .ok (.iload 5, 2) := by decide +kernel
theorem d_MO_insert_14 : decode b_MO_insert 14 = .ok (.iconst 5, 1) := by decide +kernel
theorem d_MO_insert_15 : decode b_MO_insert 15 = .ok (.iload_n 1, 1) := by decide +kernel
theorem d_MO_insert_16 : decode b_MO_insert 16 = .ok (.imul, 1) := by decide +kernel
theorem d_MO_insert_17 : decode b_MO_insert 17 = .ok (.iload_n 2, 1) := by decide +kernel
theorem d_MO_insert_18 : decode b_MO_insert 18 = .ok (.iadd, 1) := by decide +kernel
theorem d_MO_insert_19 : decode b_MO_insert 19 = .ok (.if_icmp .le 41, 3) := by decide +kernel
theorem d_MO_insert_22 : decode b_MO_insert 22 = .ok (.aload_n 0, 1) := by decide +kernel
theorem d_MO_insert_23 : decode b_MO_insert 23 = .ok (.getfield 31, 3) := by decide +kernel
theorem d_MO_insert_26 : decode b_MO_insert 26 = .ok (.iload 5, 2) := by decide +kernel
theorem d_MO_insert_28 : decode b_MO_insert 28 = .ok (.aload_n 0, 1) := by decide +kernel
theorem d_MO_insert_29 : decode b_MO_insert 29 = .ok (.getfield 31, 3) := by decide +kernel
theorem d_MO_insert_32 : decode b_MO_insert 32 = .ok (.iload 5, 2) := by decide +kernel
theorem d_MO_insert_34 : decode b_MO_insert 34 = .ok (.iconst 1, 1) := by decide +kernel
theorem d_MO_insert_35 : decode b_MO_insert 35 = .ok (.isub, 1) := by decide +kernel
theorem d_MO_insert_36 : decode b_MO_insert 36 = .ok (.iaload, 1) := by decide +kernel
theorem d_MO_insert_37 : decode b_MO_insert 37 = .ok (.iastore, 1) := by decide +kernel
theorem d_MO_insert_38 : decode b_MO_insert 38 = .ok (.aload_n 0, 1) := by decide +kernel
theorem d_MO_insert_39 : decode b_MO_insert 39 = .ok (.getfield 34, 3) := by decide +kernel
theorem d_MO_insert_42 : decode b_MO_insert 42 = .ok (.iload 5, 2) := by decide +kernel
theorem d_MO_insert_44 : decode b_MO_insert 44 = .ok (.aload_n 0, 1) := by decide +kernel
theorem d_MO_insert_45 : decode b_MO_insert 45 = .ok (.getfield 34, 3) := by decide +kernel
theorem d_MO_insert_48 : decode b_MO_insert 48 = .ok (.iload 5, 2) := by decide +kernel
theorem d_MO_insert_50 : decode b_MO_insert 50 = .ok (.iconst 1, 1) := by decide +kernel
theorem d_MO_insert_51 : decode b_MO_insert 51 = .ok (.isub, 1) := by decide +kernel
theorem d_MO_insert_52 : decode b_MO_insert 52 = .ok (.iaload, 1) := by decide +kernel
theorem d_MO_insert_53 : decode b_MO_insert 53 = .ok (.iastore, 1) := by decide +kernel
theorem d_MO_insert_54 : decode b_MO_insert 54 = .ok (.iinc 5 (-1), 3) := by decide +kernel
theorem d_MO_insert_57 : decode b_MO_insert 57 = .ok (.goto (-45), 3) := by decide +kernel
theorem d_MO_insert_60 : decode b_MO_insert 60 = .ok (.aload_n 0, 1) := by decide +kernel
theorem d_MO_insert_61 : decode b_MO_insert 61 = .ok (.getfield 31, 3) := by decide +kernel
theorem d_MO_insert_64 : decode b_MO_insert 64 = .ok (.iconst 5, 1) := by decide +kernel
theorem d_MO_insert_65 : decode b_MO_insert 65 = .ok (.iload_n 1, 1) := by decide +kernel
theorem d_MO_insert_66 : decode b_MO_insert 66 = .ok (.imul, 1) := by decide +kernel
theorem d_MO_insert_67 : decode b_MO_insert 67 = .ok (.iload_n 2, 1) := by decide +kernel
theorem d_MO_insert_68 : decode b_MO_insert 68 = .ok (.iadd, 1) := by decide +kernel
theorem d_MO_insert_69 : decode b_MO_insert 69 = .ok (.iload_n 3, 1) := by decide +kernel
theorem d_MO_insert_70 : decode b_MO_insert 70 = .ok (.iastore, 1) := by decide +kernel
theorem d_MO_insert_71 : decode b_MO_insert 71 = .ok (.aload_n 0, 1) := by decide +kernel
theorem d_MO_insert_72 : decode b_MO_insert 72 = .ok (.getfield 34, 3) := by decide +kernel
theorem d_MO_insert_75 : decode b_MO_insert 75 = .ok (.iconst 5, 1) := by decide +kernel
theorem d_MO_insert_76 : decode b_MO_insert 76 = .ok (.iload_n 1, 1) := by decide +kernel
theorem d_MO_insert_77 : decode b_MO_insert 77 = .ok (.imul, 1) := by decide +kernel
theorem d_MO_insert_78 : decode b_MO_insert 78 = .ok (.iload_n 2, 1) := by decide +kernel
theorem d_MO_insert_79 : decode b_MO_insert 79 = .ok (.iadd, 1) := by decide +kernel
theorem d_MO_insert_80 : decode b_MO_insert 80 = .ok (.iload 4, 2) := by decide +kernel
theorem d_MO_insert_82 : decode b_MO_insert 82 = .ok (.iastore, 1) := by decide +kernel
theorem d_MO_insert_83 : decode b_MO_insert 83 = .ok (.aload_n 0, 1) := by decide +kernel
theorem d_MO_insert_84 : decode b_MO_insert 84 = .ok (.getfield 25, 3) := by decide +kernel
theorem d_MO_insert_87 : decode b_MO_insert 87 = .ok (.iload_n 1, 1) := by decide +kernel
theorem d_MO_insert_88 : decode b_MO_insert 88 = .ok (.dup2, 1) := by decide +kernel
theorem d_MO_insert_89 : decode b_MO_insert 89 = .ok (.iaload, 1) := by decide +kernel
theorem d_MO_insert_90 : decode b_MO_insert 90 = .ok (.iconst 1, 1) := by decide +kernel
theorem d_MO_insert_91 : decode b_MO_insert 91 = .ok (.iadd, 1) := by decide +kernel
theorem d_MO_insert_92 : decode b_MO_insert 92 = .ok (.iastore, 1) := by decide +kernel
theorem d_MO_insert_93 : decode b_MO_insert 93 = .ok (.return_, 1) := by decide +kernel
theorem d_MO_split_0 : decode b_MO_split 0 = .ok (.aload_n 0, 1) := by decide +kernel
theorem d_MO_split_1 : decode b_MO_split 1 = .ok (.invokevirtual 146, 3) := by decide +kernel
theorem d_MO_split_4 : decode b_MO_split 4 = .ok (.istore_n 3, 1) := by decide +kernel
theorem d_MO_split_5 : decode b_MO_split 5 = .ok (.aload_n 0, 1) := by decide +kernel
theorem d_MO_split_6 : decode b_MO_split 6 = .ok (.iload_n 3, 1) := by decide +kernel
theorem d_MO_split_7 : decode b_MO_split 7 = .ok (.aload_n 0, 1) := by decide +kernel
theorem d_MO_split_8 : decode b_MO_split 8 = .ok (.getfield 13, 3) := by decide +kernel
theorem d_MO_split_11 : decode b_MO_split 11 = .ok (.iload_n 2, 1) := by decide +kernel
theorem d_MO_split_12 : decode b_MO_split 12 = .ok (.iaload, 1) := by decide +kernel
theorem d_MO_split_13 : decode b_MO_split 13 = .ok (.aload_n 0, 1) := by decide +kernel
theorem d_MO_split_14 : decode b_MO_split 14 = .ok (.getfield 31, 3) := by decide +kernel
theorem d_MO_split_17 : decode b_MO_split 17 = .ok (.iconst 5, 1) := by decide +kernel
theorem d_MO_split_18 : decode b_MO_split 18 = .ok (.iload_n 2, 1) := by decide +kernel
theorem d_MO_split_19 : decode b_MO_split 19 = .ok (.imul, 1) := by decide +kernel
theorem d_MO_split_20 : decode b_MO_split 20 = .ok (.iconst 2, 1) := by decide +kernel
theorem d_MO_split_21 : decode b_MO_split 21 = .ok (.iadd, 1) := by decide +kernel
theorem d_MO_split_22 : decode b_MO_split 22 = .ok (.iaload, 1) := by decide +kernel
theorem d_MO_split_23 : decode b_MO_split 23 = .ok (.aload_n 0, 1) := by decide +kernel
theorem d_MO_split_24 : decode b_MO_split 24 = .ok (.getfield 19, 3) := by decide +kernel
theorem d_MO_split_27 : decode b_MO_split 27 = .ok (.iload_n 2, 1) := by decide +kernel
theorem d_MO_split_28 : decode b_MO_split 28 = .ok (.iaload, 1) := by decide +kernel
theorem d_MO_split_29 : decode b_MO_split 29 = .ok (.aload_n 0, 1) := by decide +kernel
theorem d_MO_split_30 : decode b_MO_split 30 = .ok (.getfield 22, 3) := by decide +kernel
theorem d_MO_split_33 : decode b_MO_split 33 = .ok (.iload_n 2, 1) := by decide +kernel
theorem d_MO_split_34 : decode b_MO_split 34 = .ok (.iaload, 1) := by decide +kernel
theorem d_MO_split_35 : decode b_MO_split 35 = .ok (.invokevirtual 150, 3) := by decide +kernel
theorem d_MO_split_38 : decode b_MO_split 38 = .ok (.iconst 3, 1) := by decide +kernel
theorem d_MO_split_39 : decode b_MO_split 39 = .ok (.istore 4, 2) := by decide +kernel
theorem d_MO_split_41 : decode b_MO_split 41 = .ok (.iload 4, 2) := by decide +kernel
theorem d_MO_split_43 : decode b_MO_split 43 = .ok (.iconst 5, 1) := by decide +kernel
theorem d_MO_split_44 : decode b_MO_split 44 = .ok (.if_icmp .ge 36, 3) := by decide +kernel
theorem d_MO_split_47 : decode b_MO_split 47 = .ok (.aload_n 0, 1) := by decide +kernel
theorem d_MO_split_48 : decode b_MO_split 48 = .ok (.iload_n 3, 1) := by decide +kernel
theorem d_MO_split_49 : decode b_MO_split 49 = .ok (.aload_n 0, 1) := by decide +kernel
theorem d_MO_split_50 : decode b_MO_split 50 = .ok (.getfield 31, 3) := by decide +kernel
theorem d_MO_split_53 : decode b_MO_split 53 = .ok (.iconst 5, 1) := by decide +kernel
theorem d_MO_split_54 : decode b_MO_split 54 = .ok (.iload_n 2, 1) := by decide +kernel
theorem d_MO_split_55 : decode b_MO_split 55 = .ok (.imul, 1) := by decide +kernel
theorem d_MO_split_56 : decode b_MO_split 56 = .ok (.iload 4, 2) := by decide +kernel
theorem d_MO_split_58 : decode b_MO_split 58 = .ok (.iadd, 1) := by decide +kernel
theorem d_MO_split_59 : decode b_MO_split 59 = .ok (.iaload, 1) := by decide +kernel
theorem d_MO_split_60 : decode b_MO_split 60 = .ok (.aload_n 0, 1) := by decide +kernel
theorem d_MO_split_61 : decode b_MO_split 61 = .ok (.getfield 34, 3) := by decide +kernel
theorem d_MO_split_64 : decode b_MO_split 64 = .ok (.iconst 5, 1) := by decide +kernel
theorem d_MO_split_65 : decode b_MO_split 65 = .ok (.iload_n 2, 1) := by decide +kernel
theorem d_MO_split_66 : decode b_MO_split 66 = .ok (.imul, 1) := by decide +kernel
theorem d_MO_split_67 : decode b_MO_split 67 = .ok (.iload 4, 2) := by decide +kernel
theorem d_MO_split_69 : decode b_MO_split 69 = .ok (.iadd, 1) := by decide +kernel
theorem d_MO_split_70 : decode b_MO_split 70 = .ok (.iaload, 1) := by decide +kernel
theorem d_MO_split_71 : decode b_MO_split 71 = .ok (.invokevirtual 154, 3) := by decide +kernel
theorem d_MO_split_74 : decode b_MO_split 74 = .ok (.iinc 4 1, 3) := by decide +kernel
theorem d_MO_split_77 : decode b_MO_split 77 = .ok (.goto (-36), 3) := by decide +kernel
theorem d_MO_split_80 : decode b_MO_split 80 = .ok (.aload_n 0, 1) := by decide +kernel
theorem d_MO_split_81 : decode b_MO_split 81 = .ok (.getfield 25, 3) := by decide +kernel
theorem d_MO_split_84 : decode b_MO_split 84 = .ok (.iload_n 2, 1) := by decide +kernel
theorem d_MO_split_85 : decode b_MO_split 85 = .ok (.iconst 3, 1) := by decide +kernel
theorem d_MO_split_86 : decode b_MO_split 86 = .ok (.iastore, 1) := by decide +kernel
theorem d_MO_split_87 : decode b_MO_split 87 = .ok (.aload_n 0, 1) := by decide +kernel
theorem d_MO_split_88 : decode b_MO_split 88 = .ok (.getfield 19, 3) := by decide +kernel
theorem d_MO_split_91 : decode b_MO_split 91 = .ok (.iload_n 2, 1) := by decide +kernel
theorem d_MO_split_92 : decode b_MO_split 92 = .ok (.aload_n 0, 1) := by decide +kernel
theorem d_MO_split_93 : decode b_MO_split 93 = .ok (.getfield 31, 3) := by decide +kernel
theorem d_MO_split_96 : decode b_MO_split 96 = .ok (.iconst 5, 1) := by decide +kernel
theorem d_MO_split_97 : decode b_MO_split 97 = .ok (.iload_n 2, 1) := by decide +kernel
theorem d_MO_split_98 : decode b_MO_split 98 = .ok (.imul, 1) := by decide +kernel
theorem d_MO_split_99 : decode b_MO_split 99 = .ok (.iconst 2, 1) := by decide +kernel
theorem d_MO_split_100 : decode b_MO_split 100 = .ok (.iadd, 1) := by decide +kernel
theorem d_MO_split_101 : decode b_MO_split 101 = .ok (.iaload, 1) := by decide +kernel
theorem d_MO_split_102 : decode b_MO_split 102 = .ok (.iastore, 1) := by decide +kernel
theorem d_MO_split_103 : decode b_MO_split 103 = .ok (.aload_n 0, 1) := by decide +kernel
theorem d_MO_split_104 : decode b_MO_split 104 = .ok (.getfield 22, 3) := by decide +kernel
theorem d_MO_split_107 : decode b_MO_split 107 = .ok (.iload_n 2, 1) := by decide +kernel
theorem d_MO_split_108 : decode b_MO_split 108 = .ok (.iload_n 3, 1) := by decide +kernel
theorem d_MO_split_109 : decode b_MO_split 109 = .ok (.iastore, 1) := by decide +kernel
theorem d_MO_split_110 : decode b_MO_split 110 = .ok (.aload_n 0, 1) := by decide +kernel
theorem d_MO_split_111 : decode b_MO_split 111 = .ok (.getfield 47, 3) := by decide +kernel
theorem d_MO_split_114 : decode b_MO_split 114 = .ok (.iload_n 1, 1) := by decide +kernel
theorem d_MO_split_115 : decode b_MO_split 115 = .ok (.iconst 4, 1) := by decide +kernel
theorem d_MO_split_116 : decode b_MO_split 116 = .ok (.iastore, 1) := by decide +kernel
theorem d_MO_split_117 : decode b_MO_split 117 = .ok (.aload_n 0, 1) := by decide +kernel
theorem d_MO_split_118 : decode b_MO_split 118 = .ok (.getfield 65, 3) := by decide +kernel
theorem d_MO_split_121 : decode b_MO_split 121 = .ok (.iload_n 1, 1) := by decide +kernel
theorem d_MO_split_122 : decode b_MO_split 122 = .ok (.iload_n 3, 1) := by decide +kernel
theorem d_MO_split_123 : decode b_MO_split 123 = .ok (.iastore, 1) := by decide +kernel
theorem d_MO_split_124 : decode b_MO_split 124 = .ok (.aload_n 0, 1) := by decide +kernel
theorem d_MO_split_125 : decode b_MO_split 125 = .ok (.getfield 56, 3) := by decide +kernel
theorem d_MO_split_128 : decode b_MO_split 128 = .ok (.iload_n 1, 1) := by decide +kernel
theorem d_MO_split_129 : decode b_MO_split 129 = .ok (.aload_n 0, 1) := by decide +kernel
theorem d_MO_split_130 : decode b_MO_split 130 = .ok (.getfield 19, 3) := by decide +kernel
theorem d_MO_split_133 : decode b_MO_split 133 = .ok (.iload_n 2, 1) := by decide +kernel
theorem d_MO_split_134 : decode b_MO_split 134 = .ok (.iaload, 1) := by decide +kernel
theorem d_MO_split_135 : decode b_MO_split 135 = .ok (.iastore, 1) := by decide +kernel
theorem d_MO_split_136 : decode b_MO_split 136 = .ok (.aload_n 0, 1) := by decide +kernel
theorem d_MO_split_137 : decode b_MO_split 137 = .ok (.getfield 59, 3) := by decide +kernel
theorem d_MO_split_140 : decode b_MO_split 140 = .ok (.iload_n 1, 1) := by decide +kernel
theorem d_MO_split_141 : decode b_MO_split 141 = .ok (.aload_n 0, 1) := by decide +kernel
theorem d_MO_split_142 : decode b_MO_split 142 = .ok (.getfield 13, 3) := by decide +kernel
theorem d_MO_split_145 : decode b_MO_split 145 = .ok (.iload_n 2, 1) := by decide +kernel
theorem d_MO_split_146 : decode b_MO_split 146 = .ok (.iaload, 1) := by decide +kernel
theorem d_MO_split_147 : decode b_MO_split 147 = .ok (.iconst 1, 1) := by decide +kernel
theorem d_MO_split_148 : decode b_MO_split 148 = .ok (.iadd, 1) := by decide +kernel
theorem d_MO_split_149 : decode b_MO_split 149 = .ok (.iastore, 1) := by decide +kernel
theorem d_MO_split_150 : decode b_MO_split 150 = .ok (.aload_n 0, 1) := by decide +kernel
theorem d_MO_split_151 : decode b_MO_split 151 = .ok (.getfield 68, 3) := by decide +kernel
theorem d_MO_split_154 : decode b_MO_split 154 = .ok (.bipush 32, 2) := by decide +kernel
theorem d_MO_split_156 : decode b_MO_split 156 = .ok (.iload_n 1, 1) := by decide +kernel
theorem d_MO_split_157 : decode b_MO_split 157 = .ok (.imul, 1) := by decide +kernel
theorem d_MO_split_158 : decode b_MO_split 158 = .ok (.aload_n 0, 1) := by decide +kernel
theorem d_MO_split_159 : decode b_MO_split 159 = .ok (.getfield 59, 3) := by decide +kernel
theorem d_MO_split_162 : decode b_MO_split 162 = .ok (.iload_n 1, 1) := by decide +kernel
theorem d_MO_split_163 : decode b_MO_split 163 = .ok (.iaload, 1) := by decide +kernel
theorem d_MO_split_164 : decode b_MO_split 164 = .ok (.iadd, 1) := by decide +kernel
theorem d_MO_split_165 : decode b_MO_split 165 = .ok (.iaload, 1) := by decide +kernel
theorem d_MO_split_166 : decode b_MO_split 166 = .ok (.istore 4, 2) := by decide +kernel
theorem d_MO_split_168 : decode b_MO_split 168 = .ok (.aload_n 0, 1) := by decide +kernel
theorem d_MO_split_169 : decode b_MO_split 169 = .ok (.iload_n 1, 1) := by decide +kernel
theorem d_MO_split_170 : decode b_MO_split 170 = .ok (.iload 4, 2) := by decide +kernel
theorem d_MO_split_172 : decode b_MO_split 172 = .ok (.iconst (-1), 1) := by decide +kernel
theorem d_MO_split_173 : decode b_MO_split 173 = .ok (.if_icmp .ne 10, 3) := by decide +kernel
theorem d_MO_split_176 : decode b_MO_split 176 = .ok (.aload_n 0, 1) := by decide +kernel
theorem d_MO_split_177 : decode b_MO_split 177 = .ok (.getfield 108, 3) := by decide +kernel
theorem d_MO_split_180 : decode b_MO_split 180 = .ok (.goto 5, 3) := by decide +kernel
theorem d_MO_split_183 : decode b_MO_split 183 = .ok (.iload 4, 2) := by decide +kernel
theorem d_MO_split_185 : decode b_MO_split 185 = .ok (.invokevirtual 111, 3) := by decide +kernel
theorem d_MO_split_188 : decode b_MO_split 188 = .ok (.return_, 1) := by decide +kernel
theorem d_MO_posts_0 : decode b_MO_posts 0 = .ok (.aload_n 0, 1) := by decide +kernel
theorem d_MO_posts_1 : decode b_MO_posts 1 = .ok (.getfield 25, 3) := by decide +kernel
theorem d_MO_posts_4 : decode b_MO_posts 4 = .ok (.iload_n 2, 1) := by decide +kernel
theorem d_MO_posts_5 : decode b_MO_posts 5 = .ok (.iaload, 1) := by decide +kernel
theorem d_MO_posts_6 : decode b_MO_posts 6 = .ok (.iconst 4, 1) := by decide +kernel
theorem d_MO_posts_7 : decode b_MO_posts 7 = .ok (.if_icmp .ne 18, 3) := by decide +kernel
theorem d_MO_posts_10 : decode b_MO_posts 10 = .ok (.aload_n 0, 1) := by decide +kernel
theorem d_MO_posts_11 : decode b_MO_posts 11 = .ok (.invokevirtual 146, 3) := by decide +kernel
theorem d_MO_posts_14 : decode b_MO_posts 14 = .ok (.iconst (-1), 1) := by decide +kernel
theorem d_MO_posts_15 : decode b_MO_posts 15 = .ok (.if_icmp .ne 10, 3) := by decide +kernel
theorem d_MO_posts_18 : decode b_MO_posts 18 = .ok (.aload_n 0, 1) := by decide +kernel
theorem d_MO_posts_19 : decode b_MO_posts 19 = .ok (.iload_n 1, 1) := by decide +kernel
theorem d_MO_posts_20 : decode b_MO_posts 20 = .ok (.iconst (-1), 1) := by decide +kernel
theorem d_MO_posts_21 : decode b_MO_posts 21 = .ok (.invokevirtual 126, 3) := by decide +kernel
theorem d_MO_posts_24 : decode b_MO_posts 24 = .ok (.ireturn, 1) := by decide +kernel
theorem d_MO_posts_25 : decode b_MO_posts 25 = .ok (.aload_n 0, 1) := by decide +kernel
theorem d_MO_posts_26 : decode b_MO_posts 26 = .ok (.iload_n 2, 1) := by decide +kernel
theorem d_MO_posts_27 : decode b_MO_posts 27 = .ok (.aload_n 0, 1) := by decide +kernel
theorem d_MO_posts_28 : decode b_MO_posts 28 = .ok (.getfield 56, 3) := by decide +kernel
theorem d_MO_posts_31 : decode b_MO_posts 31 = .ok (.iload_n 1, 1) := by decide +kernel
theorem d_MO_posts_32 : decode b_MO_posts 32 = .ok (.iaload, 1) := by decide +kernel
theorem d_MO_posts_33 : decode b_MO_posts 33 = .ok (.invokevirtual 87, 3) := by decide +kernel
theorem d_MO_posts_36 : decode b_MO_posts 36 = .ok (.istore_n 3, 1) := by decide +kernel
theorem d_MO_posts_37 : decode b_MO_posts 37 = .ok (.aload_n 0, 1) := by decide +kernel
theorem d_MO_posts_38 : decode b_MO_posts 38 = .ok (.iload_n 2, 1) := by decide +kernel
theorem d_MO_posts_39 : decode b_MO_posts 39 = .ok (.iload_n 3, 1) := by decide +kernel
theorem d_MO_posts_40 : decode b_MO_posts 40 = .ok (.aload_n 0, 1) := by decide +kernel
theorem d_MO_posts_41 : decode b_MO_posts 41 = .ok (.getfield 56, 3) := by decide +kernel
theorem d_MO_posts_44 : decode b_MO_posts 44 = .ok (.iload_n 1, 1) := by decide +kernel
theorem d_MO_posts_45 : decode b_MO_posts 45 = .ok (.iaload, 1) := by decide +kernel
theorem d_MO_posts_46 : decode b_MO_posts 46 = .ok (.aload_n 0, 1) := by decide +kernel
theorem d_MO_posts_47 : decode b_MO_posts 47 = .ok (.getfield 34, 3) := by decide +kernel
theorem d_MO_posts_50 : decode b_MO_posts 50 = .ok (.iconst 5, 1) := by decide +kernel
theorem d_MO_posts_51 : decode b_MO_posts 51 = .ok (.iload_n 2, 1) := by decide +kernel
theorem d_MO_posts_52 : decode b_MO_posts 52 = .ok (.imul, 1) := by decide +kernel
theorem d_MO_posts_53 : decode b_MO_posts 53 = .ok (.iload_n 3, 1) := by decide +kernel
theorem d_MO_posts_54 : decode b_MO_posts 54 = .ok (.iadd, 1) := by decide +kernel
theorem d_MO_posts_55 : decode b_MO_posts 55 = .ok (.iaload, 1) := by decide +kernel
theorem d_MO_posts_56 : decode b_MO_posts 56 = .ok (.invokevirtual 179, 3) := by decide +kernel
theorem d_MO_posts_59 : decode b_MO_posts 59 = .ok (.aload_n 0, 1) := by decide +kernel
theorem d_MO_posts_60 : decode b_MO_posts 60 = .ok (.getfield 34, 3) := by decide +kernel
theorem d_MO_posts_63 : decode b_MO_posts 63 = .ok (.iconst 5, 1) := by decide +kernel
theorem d_MO_posts_64 : decode b_MO_posts 64 = .ok (.iload_n 2, 1) := by decide +kernel
theorem d_MO_posts_65 : decode b_MO_posts 65 = .ok (.imul, 1) := by decide +kernel
theorem d_MO_posts_66 : decode b_MO_posts 66 = .ok (.iload_n 3, 1) := by decide +kernel
theorem d_MO_posts_67 : decode b_MO_posts 67 = .ok (.iadd, 1) := by decide +kernel
theorem d_MO_posts_68 : decode b_MO_posts 68 = .ok (.iconst 1, 1) := by decide +kernel
theorem d_MO_posts_69 : decode b_MO_posts 69 = .ok (.iadd, 1) := by decide +kernel
theorem d_MO_posts_70 : decode b_MO_posts 70 = .ok (.aload_n 0, 1) := by decide +kernel
theorem d_MO_posts_71 : decode b_MO_posts 71 = .ok (.getfield 65, 3) := by decide +kernel
theorem d_MO_posts_74 : decode b_MO_posts 74 = .ok (.iload_n 1, 1) := by decide +kernel
theorem d_MO_posts_75 : decode b_MO_posts 75 = .ok (.iaload, 1) := by decide +kernel
theorem d_MO_posts_76 : decode b_MO_posts 76 = .ok (.iastore, 1) := by decide +kernel
theorem d_MO_posts_77 : decode b_MO_posts 77 = .ok (.aload_n 0, 1) := by decide +kernel
theorem d_MO_posts_78 : decode b_MO_posts 78 = .ok (.getfield 25, 3) := by decide +kernel
theorem d_MO_posts_81 : decode b_MO_posts 81 = .ok (.iload_n 2, 1) := by decide +kernel
theorem d_MO_posts_82 : decode b_MO_posts 82 = .ok (.iaload, 1) := by decide +kernel
theorem d_MO_posts_83 : decode b_MO_posts 83 = .ok (.iconst 4, 1) := by decide +kernel
theorem d_MO_posts_84 : decode b_MO_posts 84 = .ok (.if_icmp .gt 10, 3) := by decide +kernel
theorem d_MO_posts_87 : decode b_MO_posts 87 = .ok (.aload_n 0, 1) := by decide +kernel
theorem d_MO_posts_88 : decode b_MO_posts 88 = .ok (.iload_n 1, 1) := by decide +kernel
theorem d_MO_posts_89 : decode b_MO_posts 89 = .ok (.iconst (-1), 1) := by decide +kernel
theorem d_MO_posts_90 : decode b_MO_posts 90 = .ok (.invokevirtual 126, 3) := by decide +kernel
theorem d_MO_posts_93 : decode b_MO_posts 93 = .ok (.ireturn, 1) := by decide +kernel
theorem d_MO_posts_94 : decode b_MO_posts 94 = .ok (.aload_n 0, 1) := by decide +kernel
theorem d_MO_posts_95 : decode b_MO_posts 95 = .ok (.iload_n 1, 1) := by decide +kernel
theorem d_MO_posts_96 : decode b_MO_posts 96 = .ok (.iload_n 2, 1) := by decide +kernel
theorem d_MO_posts_97 : decode b_MO_posts 97 = .ok (.invokevirtual 183, 3) := by decide +kernel
theorem d_MO_posts_100 : decode b_MO_posts 100 = .ok (.iconst 0, 1) := by decide +kernel
theorem d_MO_posts_101 : decode b_MO_posts 101 = .ok (.ireturn, 1) := by decide +kernel
theorem d_MO_removes_0 : decode b_MO_removes 0 = .ok (.aload_n 0, 1) := by decide +kernel
theorem d_MO_removes_1 : decode b_MO_removes 1 = .ok (.iload_n 2, 1) := by decide +kernel
theorem d_MO_removes_2 : decode b_MO_removes 2 = .ok (.aload_n 0, 1) := by decide +kernel
theorem d_MO_removes_3 : decode b_MO_removes 3 = .ok (.getfield 56, 3) := by decide +kernel
theorem d_MO_removes_6 : decode b_MO_removes 6 = .ok (.iload_n 1, 1) := by decide +kernel
theorem d_MO_removes_7 : decode b_MO_removes 7 = .ok (.iaload, 1) := by decide +kernel
theorem d_MO_removes_8 : decode b_MO_removes 8 = .ok (.invokevirtual 142, 3) := by decide +kernel
theorem d_MO_removes_11 : decode b_MO_removes 11 = .ok (.ifCond .ne 10, 3) := by decide +kernel
theorem d_MO_removes_14 : decode b_MO_removes 14 = .ok (.aload_n 0, 1) := by decide +kernel
theorem d_MO_removes_15 : decode b_MO_removes 15 = .ok (.iload_n 1, 1) := by decide +kernel
theorem d_MO_removes_16 : decode b_MO_removes 16 = .ok (.iconst (-1), 1) := by decide +kernel
theorem d_MO_removes_17 : decode b_MO_removes 17 = .ok (.invokevirtual 126, 3) := by decide +kernel
theorem d_MO_removes_20 : decode b_MO_removes 20 = .ok (.ireturn, 1) := by decide +kernel
theorem d_MO_removes_21 : decode b_MO_removes 21 = .ok (.aload_n 0, 1) := by decide +kernel
theorem d_MO_removes_22 : decode b_MO_removes 22 = .ok (.iload_n 2, 1) := by decide +kernel
theorem d_MO_removes_23 : decode b_MO_removes 23 = .ok (.aload_n 0, 1) := by decide +kernel
theorem d_MO_removes_24 : decode b_MO_removes 24 = .ok (.getfield 56, 3) := by decide +kernel
theorem d_MO_removes_27 : decode b_MO_removes 27 = .ok (.iload_n 1, 1) := by decide +kernel
theorem d_MO_removes_28 : decode b_MO_removes 28 = .ok (.iaload, 1) := by decide +kernel
theorem d_MO_removes_29 : decode b_MO_removes 29 = .ok (.invokevirtual 87, 3) := by decide +kernel
theorem d_MO_removes_32 : decode b_MO_removes 32 = .ok (.istore_n 3, 1) := by decide +kernel
theorem d_MO_removes_33 : decode b_MO_removes 33 = .ok (.aload_n 0, 1) := by decide +kernel
theorem d_MO_removes_34 : decode b_MO_removes 34 = .ok (.getfield 34, 3) := by decide +kernel
theorem d_MO_removes_37 : decode b_MO_removes 37 = .ok (.iconst 5, 1) := by decide +kernel
theorem d_MO_removes_38 : decode b_MO_removes 38 = .ok (.iload_n 2, 1) := by decide +kernel
theorem d_MO_removes_39 : decode b_MO_removes 39 = .ok (.imul, 1) := by decide +kernel
theorem d_MO_removes_40 : decode b_MO_removes 40 = .ok (.iload_n 3, 1) := by decide +kernel
theorem d_MO_removes_41 : decode b_MO_removes 41 = .ok (.iadd, 1) := by decide +kernel
theorem d_MO_removes_42 : decode b_MO_removes 42 = .ok (.iaload, 1) := by decide +kernel
theorem d_MO_removes_43 : decode b_MO_removes 43 = .ok (.istore 4, 2) := by decide +kernel
theorem d_MO_removes_45 : decode b_MO_removes 45 = .ok (.aload_n 0, 1) := by decide +kernel
theorem d_MO_removes_46 : decode b_MO_removes 46 = .ok (.iload_n 2, 1) := by decide +kernel
theorem d_MO_removes_47 : decode b_MO_removes 47 = .ok (.iload_n 3, 1) := by decide +kernel
theorem d_MO_removes_48 : decode b_MO_removes 48 = .ok (.invokevirtual 186, 3) := by decide +kernel
theorem d_MO_removes_51 : decode b_MO_removes 51 = .ok (.aload_n 0, 1) := by decide +kernel
theorem d_MO_removes_52 : decode b_MO_removes 52 = .ok (.getfield 25, 3) := by decide +kernel
theorem d_MO_removes_55 : decode b_MO_removes 55 = .ok (.iload_n 2, 1) := by decide +kernel
theorem d_MO_removes_56 : decode b_MO_removes 56 = .ok (.iaload, 1) := by decide +kernel
theorem d_MO_removes_57 : decode b_MO_removes 57 = .ok (.iconst 2, 1) := by decide +kernel
theorem d_MO_removes_58 : decode b_MO_removes 58 = .ok (.if_icmp .ge 16, 3) := by decide +kernel
theorem d_MO_removes_61 : decode b_MO_removes 61 = .ok (.iload_n 2, 1) := by decide +kernel
theorem d_MO_removes_62 : decode b_MO_removes 62 = .ok (.aload_n 0, 1) := by decide +kernel
theorem d_MO_removes_63 : decode b_MO_removes 63 = .ok (.getfield 108, 3) := by decide +kernel
theorem d_MO_removes_66 : decode b_MO_removes 66 = .ok (.if_icmp .eq 8, 3) := by decide +kernel
theorem d_MO_removes_69 : decode b_MO_removes 69 = .ok (.aload_n 0, 1) := by decide +kernel
theorem d_MO_removes_70 : decode b_MO_removes 70 = .ok (.iload_n 2, 1) := by decide +kernel
theorem d_MO_removes_71 : decode b_MO_removes 71 = .ok (.invokevirtual 189, 3) := by decide +kernel
theorem d_MO_removes_74 : decode b_MO_removes 74 = .ok (.aload_n 0, 1) := by decide +kernel
theorem d_MO_removes_75 : decode b_MO_removes 75 = .ok (.iload_n 1, 1) := by decide +kernel
theorem d_MO_removes_76 : decode b_MO_removes 76 = .ok (.iload 4, 2) := by decide +kernel
theorem d_MO_removes_78 : decode b_MO_removes 78 = .ok (.invokevirtual 126, 3) := by decide +kernel
theorem d_MO_removes_81 : decode b_MO_removes 81 = .ok (.ireturn, 1) := by decide +kernel
theorem d_MO_takeOut_0 : decode b_MO_takeOut 0 = .ok (.aload_n 0, 1) := by decide +kernel
theorem d_MO_takeOut_1 : decode b_MO_takeOut 1 = .ok (.getfield 25, 3) := by decide +kernel
theorem d_MO_takeOut_4 : decode b_MO_takeOut 4 = .ok (.iload_n 1, 1) := by decide +kernel
theorem d_MO_takeOut_5 : decode b_MO_takeOut 5 = .ok (.dup2, 1) := by decide +kernel
theorem d_MO_takeOut_6 : decode b_MO_takeOut 6 = .ok (.iaload, 1) := by decide +kernel
theorem d_MO_takeOut_7 : decode b_MO_takeOut 7 = .ok (.iconst 1, 1) := by decide +kernel
theorem d_MO_takeOut_8 : decode b_MO_takeOut 8 = .ok (.isub, 1) := by decide +kernel
theorem d_MO_takeOut_9 : decode b_MO_takeOut 9 = .ok (.iastore, 1) := by decide +kernel
theorem d_MO_takeOut_10 : decode b_MO_takeOut 10 = .ok (.iconst 5, 1) := by decide +kernel
theorem d_MO_takeOut_11 : decode b_MO_takeOut 11 = .ok (.iload_n 1, 1) := by decide +kernel
theorem d_MO_takeOut_12 : decode b_MO_takeOut 12 = .ok (.imul, 1) := by decide +kernel
theorem d_MO_takeOut_13 : decode b_MO_takeOut 13 = .ok (.iload_n 2, 1) := by decide +kernel
theorem d_MO_takeOut_14 : decode b_MO_takeOut 14 = .ok (.iadd, 1) := by decide +kernel
theorem d_MO_takeOut_15 : decode b_MO_takeOut 15 = .ok (.istore_n 3, 1) := by decide +kernel
theorem d_MO_takeOut_16 : decode b_MO_takeOut 16 = .ok (.iload_n 3, 1) := by decide +kernel
theorem d_MO_takeOut_17 : decode b_MO_takeOut 17 = .ok (.iconst 5, 1) := by decide +kernel
theorem d_MO_takeOut_18 : decode b_MO_takeOut 18 = .ok (.iload_n 1, 1) := by decide +kernel
theorem d_MO_takeOut_19 : decode b_MO_takeOut 19 = .ok (.imul, 1) := by decide +kernel
theorem d_MO_takeOut_20 : decode b_MO_takeOut 20 = .ok (.aload_n 0, 1) := by decide +kernel
theorem d_MO_takeOut_21 : decode b_MO_takeOut 21 = .ok (.getfield 25, 3) := by decide +kernel
theorem d_MO_takeOut_24 : decode b_MO_takeOut 24 = .ok (.iload_n 1, 1) := by decide +kernel
theorem d_MO_takeOut_25 : decode b_MO_takeOut 25 = .ok (.iaload, 1) := by decide +kernel
theorem d_MO_takeOut_26 : decode b_MO_takeOut 26 = .ok (.iadd, 1) := by decide +kernel
theorem d_MO_takeOut_27 : decode b_MO_takeOut 27 = .ok (.if_icmp .ge 37, 3) := by decide +kernel
theorem d_MO_takeOut_30 : decode b_MO_takeOut 30 = .ok (.aload_n 0, 1) := by decide +kernel
theorem d_MO_takeOut_31 : decode b_MO_takeOut 31 = .ok (.getfield 31, 3) := by decide +kernel
theorem d_MO_takeOut_34 : decode b_MO_takeOut 34 = .ok (.iload_n 3, 1) := by decide +kernel
theorem d_MO_takeOut_35 : decode b_MO_takeOut 35 = .ok (.aload_n 0, 1) := by decide +kernel
theorem d_MO_takeOut_36 : decode b_MO_takeOut 36 = .ok (.getfield 31, 3) := by decide +kernel
theorem d_MO_takeOut_39 : decode b_MO_takeOut 39 = .ok (.iload_n 3, 1) := by decide +kernel
theorem d_MO_takeOut_40 : decode b_MO_takeOut 40 = .ok (.iconst 1, 1) := by decide +kernel
theorem d_MO_takeOut_41 : decode b_MO_takeOut 41 = .ok (.iadd, 1) := by decide +kernel
theorem d_MO_takeOut_42 : decode b_MO_takeOut 42 = .ok (.iaload, 1) := by decide +kernel
theorem d_MO_takeOut_43 : decode b_MO_takeOut 43 = .ok (.iastore, 1) := by decide +kernel
theorem d_MO_takeOut_44 : decode b_MO_takeOut 44 = .ok (.aload_n 0, 1) := by decide +kernel
theorem d_MO_takeOut_45 : decode b_MO_takeOut 45 = .ok (.getfield 34, 3) := by decide +kernel
theorem d_MO_takeOut_48 : decode b_MO_takeOut 48 = .ok (.iload_n 3, 1) := by decide +kernel
theorem d_MO_takeOut_49 : decode b_MO_takeOut 49 = .ok (.aload_n 0, 1) := by decide +kernel
theorem d_MO_takeOut_50 : decode b_MO_takeOut 50 = .ok (.getfield 34, 3) := by decide +kernel
theorem d_MO_takeOut_53 : decode b_MO_takeOut 53 = .ok (.iload_n 3, 1) := by decide +kernel
theorem d_MO_takeOut_54 : decode b_MO_takeOut 54 = .ok (.iconst 1, 1) := by decide +kernel
theorem d_MO_takeOut_55 : decode b_MO_takeOut 55 = .ok (.iadd, 1) := by decide +kernel
theorem d_MO_takeOut_56 : decode b_MO_takeOut 56 = .ok (.iaload, 1) := by decide +kernel
theorem d_MO_takeOut_57 : decode b_MO_takeOut 57 = .ok (.iastore, 1) := by decide +kernel
theorem d_MO_takeOut_58 : decode b_MO_takeOut 58 = .ok (.iinc 3 1, 3) := by decide +kernel
theorem d_MO_takeOut_61 : decode b_MO_takeOut 61 = .ok (.goto (-45), 3) := by decide +kernel
theorem d_MO_takeOut_64 : decode b_MO_takeOut 64 = .ok (.return_, 1) := by decide +kernel
theorem d_MO_comeIntoQueue_0 : decode b_MO_comeIntoQueue 0 = .ok (.iconst 0, 1) := by decide +kernel
theorem d_MO_comeIntoQueue_1 : decode b_MO_comeIntoQueue 1 = .ok (.istore_n 2, 1) := by decide +kernel
theorem d_MO_comeIntoQueue_2 : decode b_MO_comeIntoQueue 2 = .ok (.iconst 0, 1) := by decide +kernel
theorem d_MO_comeIntoQueue_3 : decode b_MO_comeIntoQueue 3 = .ok (.istore_n 3, 1) := by decide +kernel
theorem d_MO_comeIntoQueue_4 : decode b_MO_comeIntoQueue 4 = .ok (.iload_n 3, 1) := by decide +kernel
theorem d_MO_comeIntoQueue_5 : decode b_MO_comeIntoQueue 5 = .ok (.aload_n 0, 1) := by decide +kernel
theorem d_MO_comeIntoQueue_6 : decode b_MO_comeIntoQueue 6 = .ok (.getfield 91, 3) := by decide +kernel
theorem d_MO_comeIntoQueue_9 : decode b_MO_comeIntoQueue 9 = .ok (.if_icmp .ge 29, 3) := by decide +kernel
theorem d_MO_comeIntoQueue_12 : decode b_MO_comeIntoQueue 12 = .ok (.iload_n 2, 1) := by decide +kernel
theorem d_MO_comeIntoQueue_13 : decode b_MO_comeIntoQueue 13 = .ok (.ifCond .ne 13, 3) := by decide +kernel
theorem d_MO_comeIntoQueue_16 : decode b_MO_comeIntoQueue 16 = .ok (.aload_n 0, 1) := by decide +kernel
theorem d_MO_comeIntoQueue_17 : decode b_MO_comeIntoQueue 17 = .ok (.getfield 40, 3) := by decide +kernel
theorem d_MO_comeIntoQueue_20 : decode b_MO_comeIntoQueue 20 = .ok (.iload_n 3, 1) := by decide +kernel
theorem d_MO_comeIntoQueue_21 : decode b_MO_comeIntoQueue 21 = .ok (.iaload, 1) := by decide +kernel
theorem d_MO_comeIntoQueue_22 : decode b_MO_comeIntoQueue 22 = .ok (.iload_n 1, 1) := by decide +kernel
theorem d_MO_comeIntoQueue_23 : decode b_MO_comeIntoQueue 23 = .ok (.if_icmp .ne 7, 3) := by decide +kernel
theorem d_MO_comeIntoQueue_26 : decode b_MO_comeIntoQueue 26 = .ok (.iconst 1, 1) := by decide +kernel
theorem d_MO_comeIntoQueue_27 : decode b_MO_comeIntoQueue 27 = .ok (.goto 4, 3) := by decide +kernel
theorem d_MO_comeIntoQueue_30 : decode b_MO_comeIntoQueue 30 = .ok (.iconst 0, 1) := by decide +kernel
theorem d_MO_comeIntoQueue_31 : decode b_MO_comeIntoQueue 31 = .ok (.istore_n 2, 1) := by decide +kernel
theorem d_MO_comeIntoQueue_32 : decode b_MO_comeIntoQueue 32 = .ok (.iinc 3 1, 3) := by decide +kernel
theorem d_MO_comeIntoQueue_35 : decode b_MO_comeIntoQueue 35 = .ok (.goto (-31), 3) := by decide +kernel
theorem d_MO_comeIntoQueue_38 : decode b_MO_comeIntoQueue 38 = .ok (.iload_n 2, 1) := by decide +kernel
theorem d_MO_comeIntoQueue_39 : decode b_MO_comeIntoQueue 39 = .ok (.ifCond .ne 12, 3) := by decide +kernel
theorem d_MO_comeIntoQueue_42 : decode b_MO_comeIntoQueue 42 = .ok (.aload_n 0, 1) := by decide +kernel
theorem d_MO_comeIntoQueue_43 : decode b_MO_comeIntoQueue 43 = .ok (.getfield 91, 3) := by decide +kernel
theorem d_MO_comeIntoQueue_46 : decode b_MO_comeIntoQueue 46 = .ok (.bipush 12, 2) := by decide +kernel
theorem d_MO_comeIntoQueue_48 : decode b_MO_comeIntoQueue 48 = .ok (.if_icmp .ne 4, 3) := by decide +kernel
theorem d_MO_comeIntoQueue_51 : decode b_MO_comeIntoQueue 51 = .ok (.return_, 1) := by decide +kernel
theorem d_MO_comeIntoQueue_52 : decode b_MO_comeIntoQueue 52 = .ok (.aload_n 0, 1) := by decide +kernel
theorem d_MO_comeIntoQueue_53 : decode b_MO_comeIntoQueue 53 = .ok (.getfield 40, 3) := by decide +kernel
theorem d_MO_comeIntoQueue_56 : decode b_MO_comeIntoQueue 56 = .ok (.aload_n 0, 1) := by decide +kernel
theorem d_MO_comeIntoQueue_57 : decode b_MO_comeIntoQueue 57 = .ok (.getfield 91, 3) := by decide +kernel
theorem d_MO_comeIntoQueue_60 : decode b_MO_comeIntoQueue 60 = .ok (.iload_n 1, 1) := by decide +kernel
theorem d_MO_comeIntoQueue_61 : decode b_MO_comeIntoQueue 61 = .ok (.iastore, 1) := by decide +kernel
theorem d_MO_comeIntoQueue_62 : decode b_MO_comeIntoQueue 62 = .ok (.aload_n 0, 1) := by decide +kernel
theorem d_MO_comeIntoQueue_63 : decode b_MO_comeIntoQueue 63 = .ok (.dup, 1) := by decide +kernel
theorem d_MO_comeIntoQueue_64 : decode b_MO_comeIntoQueue 64 = .ok (.getfield 91, 3) := by decide +kernel
theorem d_MO_comeIntoQueue_67 : decode b_MO_comeIntoQueue 67 = .ok (.iconst 1, 1) := by decide +kernel
theorem d_MO_comeIntoQueue_68 : decode b_MO_comeIntoQueue 68 = .ok (.iadd, 1) := by decide +kernel
theorem d_MO_comeIntoQueue_69 : decode b_MO_comeIntoQueue 69 = .ok (.putfield 91, 3) := by decide +kernel
theorem d_MO_comeIntoQueue_72 : decode b_MO_comeIntoQueue 72 = .ok (.return_, 1) := by decide +kernel
theorem d_MO_joins_0 : decode b_MO_joins 0 = .ok (.aload_n 0, 1) := by decide +kernel
theorem d_MO_joins_1 : decode b_MO_joins 1 = .ok (.iload_n 2, 1) := by decide +kernel
theorem d_MO_joins_2 : decode b_MO_joins 2 = .ok (.aload_n 0, 1) := by decide +kernel
theorem d_MO_joins_3 : decode b_MO_joins 3 = .ok (.getfield 65, 3) := by decide +kernel
theorem d_MO_joins_6 : decode b_MO_joins 6 = .ok (.iload_n 1, 1) := by decide +kernel
theorem d_MO_joins_7 : decode b_MO_joins 7 = .ok (.iaload, 1) := by decide +kernel
theorem d_MO_joins_8 : decode b_MO_joins 8 = .ok (.invokevirtual 192, 3) := by decide +kernel
theorem d_MO_joins_11 : decode b_MO_joins 11 = .ok (.istore_n 3, 1) := by decide +kernel
theorem d_MO_joins_12 : decode b_MO_joins 12 = .ok (.aload_n 0, 1) := by decide +kernel
theorem d_MO_joins_13 : decode b_MO_joins 13 = .ok (.getfield 7, 3) := by decide +kernel
theorem d_MO_joins_16 : decode b_MO_joins 16 = .ok (.aload_n 0, 1) := by decide +kernel
theorem d_MO_joins_17 : decode b_MO_joins 17 = .ok (.getfield 65, 3) := by decide +kernel
theorem d_MO_joins_20 : decode b_MO_joins 20 = .ok (.iload_n 1, 1) := by decide +kernel
theorem d_MO_joins_21 : decode b_MO_joins 21 = .ok (.iaload, 1) := by decide +kernel
theorem d_MO_joins_22 : decode b_MO_joins 22 = .ok (.iaload, 1) := by decide +kernel
theorem d_MO_joins_23 : decode b_MO_joins 23 = .ok (.iconst 1, 1) := by decide +kernel
theorem d_MO_joins_24 : decode b_MO_joins 24 = .ok (.if_icmp .ne 18, 3) := by decide +kernel
theorem d_MO_joins_27 : decode b_MO_joins 27 = .ok (.iload_n 3, 1) := by decide +kernel
theorem d_MO_joins_28 : decode b_MO_joins 28 = .ok (.iconst (-1), 1) := by decide +kernel
theorem d_MO_joins_29 : decode b_MO_joins 29 = .ok (.if_icmp .eq 13, 3) := by decide +kernel
theorem d_MO_joins_32 : decode b_MO_joins 32 = .ok (.aload_n 0, 1) := by decide +kernel
theorem d_MO_joins_33 : decode b_MO_joins 33 = .ok (.getfield 25, 3) := by decide +kernel
theorem d_MO_joins_36 : decode b_MO_joins 36 = .ok (.iload_n 2, 1) := by decide +kernel
theorem d_MO_joins_37 : decode b_MO_joins 37 = .ok (.iaload, 1) := by decide +kernel
theorem d_MO_joins_38 : decode b_MO_joins 38 = .ok (.iconst 1, 1) := by decide +kernel
theorem d_MO_joins_39 : decode b_MO_joins 39 = .ok (.if_icmp .ne 10, 3) := by decide +kernel
theorem d_MO_joins_42 : decode b_MO_joins 42 = .ok (.aload_n 0, 1) := by decide +kernel
theorem d_MO_joins_43 : decode b_MO_joins 43 = .ok (.iload_n 1, 1) := by decide +kernel
theorem d_MO_joins_44 : decode b_MO_joins 44 = .ok (.iconst 0, 1) := by decide +kernel
theorem d_MO_joins_45 : decode b_MO_joins 45 = .ok (.invokevirtual 126, 3) := by decide +kernel
theorem d_MO_joins_48 : decode b_MO_joins 48 = .ok (.ireturn, 1) := by decide +kernel
theorem d_MO_joins_49 : decode b_MO_joins 49 = .ok (.iload_n 3, 1) := by decide +kernel
theorem d_MO_joins_50 : decode b_MO_joins 50 = .ok (.aload_n 0, 1) := by decide +kernel
theorem d_MO_joins_51 : decode b_MO_joins 51 = .ok (.getfield 25, 3) := by decide +kernel
theorem d_MO_joins_54 : decode b_MO_joins 54 = .ok (.iload_n 2, 1) := by decide +kernel
theorem d_MO_joins_55 : decode b_MO_joins 55 = .ok (.iaload, 1) := by decide +kernel
theorem d_MO_joins_56 : decode b_MO_joins 56 = .ok (.iconst 1, 1) := by decide +kernel
theorem d_MO_joins_57 : decode b_MO_joins 57 = .ok (.isub, 1) := by decide +kernel
theorem d_MO_joins_58 : decode b_MO_joins 58 = .ok (.if_icmp .ne 6, 3) := by decide +kernel
theorem d_MO_joins_61 : decode b_MO_joins 61 = .ok (.iinc 3 (-1), 3) := by decide +kernel
theorem d_MO_joins_64 : decode b_MO_joins 64 = .ok (.aload_n 0, 1) := by decide +kernel
theorem d_MO_joins_65 : decode b_MO_joins 65 = .ok (.getfield 34, 3) := by decide +kernel
theorem d_MO_joins_68 : decode b_MO_joins 68 = .ok (.iconst 5, 1) := by decide +kernel
theorem d_MO_joins_69 : decode b_MO_joins 69 = .ok (.iload_n 2, 1) := by decide +kernel
theorem d_MO_joins_70 : decode b_MO_joins 70 = .ok (.imul, 1) := by decide +kernel
theorem d_MO_joins_71 : decode b_MO_joins 71 = .ok (.iload_n 3, 1) := by decide +kernel
theorem d_MO_joins_72 : decode b_MO_joins 72 = .ok (.iadd, 1) := by decide +kernel
theorem d_MO_joins_73 : decode b_MO_joins 73 = .ok (.iaload, 1) := by decide +kernel
theorem d_MO_joins_74 : decode b_MO_joins 74 = .ok (.istore 4, 2) := by decide +kernel
theorem d_MO_joins_76 : decode b_MO_joins 76 = .ok (.aload_n 0, 1) := by decide +kernel
theorem d_MO_joins_77 : decode b_MO_joins 77 = .ok (.getfield 34, 3) := by decide +kernel
theorem d_MO_joins_80 : decode b_MO_joins 80 = .ok (.iconst 5, 1) := by decide +kernel
theorem d_MO_joins_81 : decode b_MO_joins 81 = .ok (.iload_n 2, 1) := by decide +kernel
theorem d_MO_joins_82 : decode b_MO_joins 82 = .ok (.imul, 1) := by decide +kernel
theorem d_MO_joins_83 : decode b_MO_joins 83 = .ok (.iload_n 3, 1) := by decide +kernel
theorem d_MO_joins_84 : decode b_MO_joins 84 = .ok (.iadd, 1) := by decide +kernel
theorem d_MO_joins_85 : decode b_MO_joins 85 = .ok (.iconst 1, 1) := by decide +kernel
theorem d_MO_joins_86 : decode b_MO_joins 86 = .ok (.iadd, 1) := by decide +kernel
theorem d_MO_joins_87 : decode b_MO_joins 87 = .ok (.iaload, 1) := by decide +kernel
theorem d_MO_joins_88 : decode b_MO_joins 88 = .ok (.istore 5, 2) := by decide +kernel
theorem d_MO_joins_90 : decode b_MO_joins 90 = .ok (.aload_n 0, 1) := by decide +kernel
theorem d_MO_joins_91 : decode b_MO_joins 91 = .ok (.getfield 28, 3) := by decide +kernel
theorem d_MO_joins_94 : decode b_MO_joins 94 = .ok (.iload 4, 2) := by decide +kernel
theorem d_MO_joins_96 : decode b_MO_joins 96 = .ok (.iaload, 1) := by decide +kernel
theorem d_MO_joins_97 : decode b_MO_joins 97 = .ok (.iconst (-1), 1) := by decide +kernel
theorem d_MO_joins_98 : decode b_MO_joins 98 = .ok (.if_icmp .ne 14, 3) := by decide +kernel
theorem d_MO_joins_101 : decode b_MO_joins 101 = .ok (.aload_n 0, 1) := by decide +kernel
theorem d_MO_joins_102 : decode b_MO_joins 102 = .ok (.getfield 28, 3) := by decide +kernel
theorem d_MO_joins_105 : decode b_MO_joins 105 = .ok (.iload 5, 2) := by decide +kernel
theorem d_MO_joins_107 : decode b_MO_joins 107 = .ok (.iaload, 1) := by decide +kernel
theorem d_MO_joins_108 : decode b_MO_joins 108 = .ok (.iconst (-1), 1) := by decide +kernel
theorem d_MO_joins_109 : decode b_MO_joins 109 = .ok (.if_icmp .eq 5, 3) := by decide +kernel
theorem d_MO_joins_112 : decode b_MO_joins 112 = .ok (.iconst 1, 1) := by decide +kernel
theorem d_MO_joins_113 : decode b_MO_joins 113 = .ok (.ireturn, 1) := by decide +kernel
theorem d_MO_joins_114 : decode b_MO_joins 114 = .ok (.aload_n 0, 1) := by decide +kernel
theorem d_MO_joins_115 : decode b_MO_joins 115 = .ok (.getfield 19, 3) := by decide +kernel
theorem d_MO_joins_118 : decode b_MO_joins 118 = .ok (.iload 4, 2) := by decide +kernel
theorem d_MO_joins_120 : decode b_MO_joins 120 = .ok (.iaload, 1) := by decide +kernel
theorem d_MO_joins_121 : decode b_MO_joins 121 = .ok (.aload_n 0, 1) := by decide +kernel
theorem d_MO_joins_122 : decode b_MO_joins 122 = .ok (.getfield 31, 3) := by decide +kernel
theorem d_MO_joins_125 : decode b_MO_joins 125 = .ok (.iconst 5, 1) := by decide +kernel
theorem d_MO_joins_126 : decode b_MO_joins 126 = .ok (.iload_n 2, 1) := by decide +kernel
theorem d_MO_joins_127 : decode b_MO_joins 127 = .ok (.imul, 1) := by decide +kernel
theorem d_MO_joins_128 : decode b_MO_joins 128 = .ok (.iload_n 3, 1) := by decide +kernel
theorem d_MO_joins_129 : decode b_MO_joins 129 = .ok (.iadd, 1) := by decide +kernel
theorem d_MO_joins_130 : decode b_MO_joins 130 = .ok (.iaload, 1) := by decide +kernel
theorem d_MO_joins_131 : decode b_MO_joins 131 = .ok (.if_icmp .ne 25, 3) := by decide +kernel
theorem d_MO_joins_134 : decode b_MO_joins 134 = .ok (.aload_n 0, 1) := by decide +kernel
theorem d_MO_joins_135 : decode b_MO_joins 135 = .ok (.getfield 19, 3) := by decide +kernel
theorem d_MO_joins_138 : decode b_MO_joins 138 = .ok (.iload 5, 2) := by decide +kernel
theorem d_MO_joins_140 : decode b_MO_joins 140 = .ok (.iaload, 1) := by decide +kernel
theorem d_MO_joins_141 : decode b_MO_joins 141 = .ok (.aload_n 0, 1) := by decide +kernel
theorem d_MO_joins_142 : decode b_MO_joins 142 = .ok (.getfield 31, 3) := by decide +kernel
theorem d_MO_joins_145 : decode b_MO_joins 145 = .ok (.iconst 5, 1) := by decide +kernel
theorem d_MO_joins_146 : decode b_MO_joins 146 = .ok (.iload_n 2, 1) := by decide +kernel
theorem d_MO_joins_147 : decode b_MO_joins 147 = .ok (.imul, 1) := by decide +kernel
theorem d_MO_joins_148 : decode b_MO_joins 148 = .ok (.iload_n 3, 1) := by decide +kernel
theorem d_MO_joins_149 : decode b_MO_joins 149 = .ok (.iadd, 1) := by decide +kernel
theorem d_MO_joins_150 : decode b_MO_joins 150 = .ok (.iconst 1, 1) := by decide +kernel
theorem d_MO_joins_151 : decode b_MO_joins 151 = .ok (.iadd, 1) := by decide +kernel
theorem d_MO_joins_152 : decode b_MO_joins 152 = .ok (.iaload, 1) := by decide +kernel
theorem d_MO_joins_153 : decode b_MO_joins 153 = .ok (.if_icmp .eq 10, 3) := by decide +kernel
theorem d_MO_joins_156 : decode b_MO_joins 156 = .ok (.aload_n 0, 1) := by decide +kernel
theorem d_MO_joins_157 : decode b_MO_joins 157 = .ok (.iload_n 1, 1) := by decide +kernel
theorem d_MO_joins_158 : decode b_MO_joins 158 = .ok (.iconst 0, 1) := by decide +kernel
theorem d_MO_joins_159 : decode b_MO_joins 159 = .ok (.invokevirtual 126, 3) := by decide +kernel
theorem d_MO_joins_162 : decode b_MO_joins 162 = .ok (.ireturn, 1) := by decide +kernel
theorem d_MO_joins_163 : decode b_MO_joins 163 = .ok (.aload_n 0, 1) := by decide +kernel
theorem d_MO_joins_164 : decode b_MO_joins 164 = .ok (.getfield 25, 3) := by decide +kernel
theorem d_MO_joins_167 : decode b_MO_joins 167 = .ok (.iload 4, 2) := by decide +kernel
theorem d_MO_joins_169 : decode b_MO_joins 169 = .ok (.iaload, 1) := by decide +kernel
theorem d_MO_joins_170 : decode b_MO_joins 170 = .ok (.aload_n 0, 1) := by decide +kernel
theorem d_MO_joins_171 : decode b_MO_joins 171 = .ok (.getfield 25, 3) := by decide +kernel
theorem d_MO_joins_174 : decode b_MO_joins 174 = .ok (.iload 5, 2) := by decide +kernel
theorem d_MO_joins_176 : decode b_MO_joins 176 = .ok (.iaload, 1) := by decide +kernel
theorem d_MO_joins_177 : decode b_MO_joins 177 = .ok (.iadd, 1) := by decide +kernel
theorem d_MO_joins_178 : decode b_MO_joins 178 = .ok (.iconst 4, 1) := by decide +kernel
theorem d_MO_joins_179 : decode b_MO_joins 179 = .ok (.if_icmp .le 31, 3) := by decide +kernel
theorem d_MO_joins_182 : decode b_MO_joins 182 = .ok (.aload_n 0, 1) := by decide +kernel
theorem d_MO_joins_183 : decode b_MO_joins 183 = .ok (.iload 4, 2) := by decide +kernel
theorem d_MO_joins_185 : decode b_MO_joins 185 = .ok (.iload 5, 2) := by decide +kernel
theorem d_MO_joins_187 : decode b_MO_joins 187 = .ok (.invokevirtual 195, 3) := by decide +kernel
theorem d_MO_joins_190 : decode b_MO_joins 190 = .ok (.aload_n 0, 1) := by decide +kernel
theorem d_MO_joins_191 : decode b_MO_joins 191 = .ok (.getfield 31, 3) := by decide +kernel
theorem d_MO_joins_194 : decode b_MO_joins 194 = .ok (.iconst 5, 1) := by decide +kernel
theorem d_MO_joins_195 : decode b_MO_joins 195 = .ok (.iload_n 2, 1) := by decide +kernel
theorem d_MO_joins_196 : decode b_MO_joins 196 = .ok (.imul, 1) := by decide +kernel
theorem d_MO_joins_197 : decode b_MO_joins 197 = .ok (.iload_n 3, 1) := by decide +kernel
theorem d_MO_joins_198 : decode b_MO_joins 198 = .ok (.iadd, 1) := by decide +kernel
theorem d_MO_joins_199 : decode b_MO_joins 199 = .ok (.aload_n 0, 1) := by decide +kernel
theorem d_MO_joins_200 : decode b_MO_joins 200 = .ok (.getfield 19, 3) := by decide +kernel
theorem d_MO_joins_203 : decode b_MO_joins 203 = .ok (.iload 4, 2) := by decide +kernel
theorem d_MO_joins_205 : decode b_MO_joins 205 = .ok (.iaload, 1) := by decide +kernel
theorem d_MO_joins_206 : decode b_MO_joins 206 = .ok (.iastore, 1) := by decide +kernel
theorem d_MO_joins_207 : decode b_MO_joins 207 = .ok (.goto 121, 3) := by decide +kernel
theorem d_MO_joins_210 : decode b_MO_joins 210 = .ok (.iconst 5, 1) := by decide +kernel
theorem d_MO_joins_211 : decode b_MO_joins 211 = .ok (.iload 5, 2) := by decide +kernel
theorem d_MO_joins_213 : decode b_MO_joins 213 = .ok (.imul, 1) := by decide +kernel
theorem d_MO_joins_214 : decode b_MO_joins 214 = .ok (.istore 6, 2) := by decide +kernel
theorem d_MO_joins_216 : decode b_MO_joins 216 = .ok (.iload 6, 2) := by decide +kernel
theorem d_MO_joins_218 : decode b_MO_joins 218 = .ok (.iconst 5, 1) := by decide +kernel
theorem d_MO_joins_219 : decode b_MO_joins 219 = .ok (.iload 5, 2) := by decide +kernel
theorem d_MO_joins_221 : decode b_MO_joins 221 = .ok (.imul, 1) := by decide +kernel
theorem d_MO_joins_222 : decode b_MO_joins 222 = .ok (.aload_n 0, 1) := by decide +kernel
theorem d_MO_joins_223 : decode b_MO_joins 223 = .ok (.getfield 25, 3) := by decide +kernel
theorem d_MO_joins_226 : decode b_MO_joins 226 = .ok (.iload 5, 2) := by decide +kernel
theorem d_MO_joins_228 : decode b_MO_joins 228 = .ok (.iaload, 1) := by decide +kernel
theorem d_MO_joins_229 : decode b_MO_joins 229 = .ok (.iadd, 1) := by decide +kernel
theorem d_MO_joins_230 : decode b_MO_joins 230 = .ok (.if_icmp .ge 29, 3) := by decide +kernel
theorem d_MO_joins_233 : decode b_MO_joins 233 = .ok (.aload_n 0, 1) := by decide +kernel
theorem d_MO_joins_234 : decode b_MO_joins 234 = .ok (.iload 4, 2) := by decide +kernel
theorem d_MO_joins_236 : decode b_MO_joins 236 = .ok (.aload_n 0, 1) := by decide +kernel
theorem d_MO_joins_237 : decode b_MO_joins 237 = .ok (.getfield 31, 3) := by decide +kernel
theorem d_MO_joins_240 : decode b_MO_joins 240 = .ok (.iload 6, 2) := by decide +kernel
theorem d_MO_joins_242 : decode b_MO_joins 242 = .ok (.iaload, 1) := by decide +kernel
theorem d_MO_joins_243 : decode b_MO_joins 243 = .ok (.aload_n 0, 1) := by decide +kernel
theorem d_MO_joins_244 : decode b_MO_joins 244 = .ok (.getfield 34, 3) := by decide +kernel
theorem d_MO_joins_247 : decode b_MO_joins 247 = .ok (.iload 6, 2) := by decide +kernel
theorem d_MO_joins_249 : decode b_MO_joins 249 = .ok (.iaload, 1) := by decide +kernel
theorem d_MO_joins_250 : decode b_MO_joins 250 = .ok (.invokevirtual 154, 3) := by decide +kernel
theorem d_MO_joins_253 : decode b_MO_joins 253 = .ok (.iinc 6 1, 3) := by decide +kernel
theorem d_MO_joins_256 : decode b_MO_joins 256 = .ok (.goto (-40), 3) := by decide +kernel
theorem d_MO_joins_259 : decode b_MO_joins 259 = .ok (.aload_n 0, 1) := by decide +kernel
theorem d_MO_joins_260 : decode b_MO_joins 260 = .ok (.getfield 19, 3) := by decide +kernel
theorem d_MO_joins_263 : decode b_MO_joins 263 = .ok (.iload 4, 2) := by decide +kernel
theorem d_MO_joins_265 : decode b_MO_joins 265 = .ok (.aload_n 0, 1) := by decide +kernel
theorem d_MO_joins_266 : decode b_MO_joins 266 = .ok (.getfield 19, 3) := by decide +kernel
theorem d_MO_joins_269 : decode b_MO_joins 269 = .ok (.iload 5, 2) := by decide +kernel
theorem d_MO_joins_271 : decode b_MO_joins 271 = .ok (.iaload, 1) := by decide +kernel
theorem d_MO_joins_272 : decode b_MO_joins 272 = .ok (.iastore, 1) := by decide +kernel
theorem d_MO_joins_273 : decode b_MO_joins 273 = .ok (.aload_n 0, 1) := by decide +kernel
theorem d_MO_joins_274 : decode b_MO_joins 274 = .ok (.getfield 22, 3) := by decide +kernel
theorem d_MO_joins_277 : decode b_MO_joins 277 = .ok (.iload 4, 2) := by decide +kernel
theorem d_MO_joins_279 : decode b_MO_joins 279 = .ok (.aload_n 0, 1) := by decide +kernel
theorem d_MO_joins_280 : decode b_MO_joins 280 = .ok (.getfield 22, 3) := by decide +kernel
theorem d_MO_joins_283 : decode b_MO_joins 283 = .ok (.iload 5, 2) := by decide +kernel
theorem d_MO_joins_285 : decode b_MO_joins 285 = .ok (.iaload, 1) := by decide +kernel
theorem d_MO_joins_286 : decode b_MO_joins 286 = .ok (.iastore, 1) := by decide +kernel
theorem d_MO_joins_287 : decode b_MO_joins 287 = .ok (.aload_n 0, 1) := by decide +kernel
theorem d_MO_joins_288 : decode b_MO_joins 288 = .ok (.iload 5, 2) := by decide +kernel
theorem d_MO_joins_290 : decode b_MO_joins 290 = .ok (.iload_n 1, 1) := by decide +kernel
theorem d_MO_joins_291 : decode b_MO_joins 291 = .ok (.invokevirtual 198, 3) := by decide +kernel
theorem d_MO_joins_294 : decode b_MO_joins 294 = .ok (.aload_n 0, 1) := by decide +kernel
theorem d_MO_joins_295 : decode b_MO_joins 295 = .ok (.iload_n 2, 1) := by decide +kernel
theorem d_MO_joins_296 : decode b_MO_joins 296 = .ok (.iload_n 3, 1) := by decide +kernel
theorem d_MO_joins_297 : decode b_MO_joins 297 = .ok (.invokevirtual 186, 3) := by decide +kernel
theorem d_MO_joins_300 : decode b_MO_joins 300 = .ok (.aload_n 0, 1) := by decide +kernel
theorem d_MO_joins_301 : decode b_MO_joins 301 = .ok (.getfield 34, 3) := by decide +kernel
theorem d_MO_joins_304 : decode b_MO_joins 304 = .ok (.iconst 5, 1) := by decide +kernel
theorem d_MO_joins_305 : decode b_MO_joins 305 = .ok (.iload_n 2, 1) := by decide +kernel
theorem d_MO_joins_306 : decode b_MO_joins 306 = .ok (.imul, 1) := by decide +kernel
theorem d_MO_joins_307 : decode b_MO_joins 307 = .ok (.iload_n 3, 1) := by decide +kernel
theorem d_MO_joins_308 : decode b_MO_joins 308 = .ok (.iadd, 1) := by decide +kernel
theorem d_MO_joins_309 : decode b_MO_joins 309 = .ok (.iload 4, 2) := by decide +kernel
theorem d_MO_joins_311 : decode b_MO_joins 311 = .ok (.iastore, 1) := by decide +kernel
theorem d_MO_joins_312 : decode b_MO_joins 312 = .ok (.aload_n 0, 1) := by decide +kernel
theorem d_MO_joins_313 : decode b_MO_joins 313 = .ok (.getfield 25, 3) := by decide +kernel
theorem d_MO_joins_316 : decode b_MO_joins 316 = .ok (.iload_n 2, 1) := by decide +kernel
theorem d_MO_joins_317 : decode b_MO_joins 317 = .ok (.iaload, 1) := by decide +kernel
theorem d_MO_joins_318 : decode b_MO_joins 318 = .ok (.iconst 1, 1) := by decide +kernel
theorem d_MO_joins_319 : decode b_MO_joins 319 = .ok (.if_icmp .ne 9, 3) := by decide +kernel
theorem d_MO_joins_322 : decode b_MO_joins 322 = .ok (.aload_n 0, 1) := by decide +kernel
theorem d_MO_joins_323 : decode b_MO_joins 323 = .ok (.iload_n 1, 1) := by decide +kernel
theorem d_MO_joins_324 : decode b_MO_joins 324 = .ok (.iload_n 2, 1) := by decide +kernel
theorem d_MO_joins_325 : decode b_MO_joins 325 = .ok (.invokevirtual 201, 3) := by decide +kernel
theorem d_MO_joins_328 : decode b_MO_joins 328 = .ok (.aload_n 0, 1) := by decide +kernel
theorem d_MO_joins_329 : decode b_MO_joins 329 = .ok (.iload_n 1, 1) := by decide +kernel
theorem d_MO_joins_330 : decode b_MO_joins 330 = .ok (.iconst 1, 1) := by decide +kernel
theorem d_MO_joins_331 : decode b_MO_joins 331 = .ok (.invokevirtual 126, 3) := by decide +kernel
theorem d_MO_joins_334 : decode b_MO_joins 334 = .ok (.ireturn, 1) := by decide +kernel
theorem d_MO_childOf_0 : decode b_MO_childOf 0 = .ok (.iconst 0, 1) := by decide +kernel
theorem d_MO_childOf_1 : decode b_MO_childOf 1 = .ok (.istore_n 3, 1) := by decide +kernel
theorem d_MO_childOf_2 : decode b_MO_childOf 2 = .ok (.iload_n 3, 1) := by decide +kernel
theorem d_MO_childOf_3 : decode b_MO_childOf 3 = .ok (.aload_n 0, 1) := by decide +kernel
theorem d_MO_childOf_4 : decode b_MO_childOf 4 = .ok (.getfield 25, 3) := by decide +kernel
theorem d_MO_childOf_7 : decode b_MO_childOf 7 = .ok (.iload_n 1, 1) := by decide +kernel
theorem d_MO_childOf_8 : decode b_MO_childOf 8 = .ok (.iaload, 1) := by decide +kernel
theorem d_MO_childOf_9 : decode b_MO_childOf 9 = .ok (.if_icmp .ge 25, 3) := by decide +kernel
theorem d_MO_childOf_12 : decode b_MO_childOf 12 = .ok (.aload_n 0, 1) := by decide +kernel
theorem d_MO_childOf_13 : decode b_MO_childOf 13 = .ok (.getfield 34, 3) := by decide +kernel
theorem d_MO_childOf_16 : decode b_MO_childOf 16 = .ok (.iconst 5, 1) := by decide +kernel
theorem d_MO_childOf_17 : decode b_MO_childOf 17 = .ok (.iload_n 1, 1) := by decide +kernel
theorem d_MO_childOf_18 : decode b_MO_childOf 18 = .ok (.imul, 1) := by decide +kernel
theorem d_MO_childOf_19 : decode b_MO_childOf 19 = .ok (.iload_n 3, 1) := by decide +kernel
theorem d_MO_childOf_20 : decode b_MO_childOf 20 = .ok (.iadd, 1) := by decide +kernel
theorem d_MO_childOf_21 : decode b_MO_childOf 21 = .ok (.iaload, 1) := by decide +kernel
theorem d_MO_childOf_22 : decode b_MO_childOf 22 = .ok (.iload_n 2, 1) := by decide +kernel
theorem d_MO_childOf_23 : decode b_MO_childOf 23 = .ok (.if_icmp .ne 5, 3) := by decide +kernel
theorem d_MO_childOf_26 : decode b_MO_childOf 26 = .ok (.iload_n 3, 1) := by decide +kernel
theorem d_MO_childOf_27 : decode b_MO_childOf 27 = .ok (.ireturn, 1) := by decide +kernel
theorem d_MO_childOf_28 : decode b_MO_childOf 28 = .ok (.iinc 3 1, 3) := by decide +kernel
theorem d_MO_childOf_31 : decode b_MO_childOf 31 = .ok (.goto (-29), 3) := by decide +kernel
theorem d_MO_childOf_34 : decode b_MO_childOf 34 = .ok (.iconst (-1), 1) := by decide +kernel
theorem d_MO_childOf_35 : decode b_MO_childOf 35 = .ok (.ireturn, 1) := by decide +kernel
theorem d_MO_balance_0 : decode b_MO_balance 0 = .ok (.aload_n 0, 1) := by decide +kernel
theorem d_MO_balance_1 : decode b_MO_balance 1 = .ok (.getfield 25, 3) := by decide +kernel
theorem d_MO_balance_4 : decode b_MO_balance 4 = .ok (.iload_n 1, 1) := by decide +kernel
theorem d_MO_balance_5 : decode b_MO_balance 5 = .ok (.iaload, 1) := by decide +kernel
theorem d_MO_balance_6 : decode b_MO_balance 6 = .ok (.aload_n 0, 1) := by decide +kernel
theorem d_MO_balance_7 : decode b_MO_balance 7 = .ok (.getfield 25, 3) := by decide +kernel
theorem d_MO_balance_10 : decode b_MO_balance 10 = .ok (.iload_n 2, 1) := by decide +kernel
theorem d_MO_balance_11 : decode b_MO_balance 11 = .ok (.iaload, 1) := by decide +kernel
theorem d_MO_balance_12 : decode b_MO_balance 12 = .ok (.iadd, 1) := by decide +kernel
theorem d_MO_balance_13 : decode b_MO_balance 13 = .ok (.iconst 1, 1) := by decide +kernel
theorem d_MO_balance_14 : decode b_MO_balance 14 = .ok (.iadd, 1) := by decide +kernel
theorem d_MO_balance_15 : decode b_MO_balance 15 = .ok (.iconst 2, 1) := by decide +kernel
theorem d_MO_balance_16 : decode b_MO_balance 16 = .ok (.idiv, 1) := by decide +kernel
theorem d_MO_balance_17 : decode b_MO_balance 17 = .ok (.istore_n 3, 1) := by decide +kernel
theorem d_MO_balance_18 : decode b_MO_balance 18 = .ok (.aload_n 0, 1) := by decide +kernel
theorem d_MO_balance_19 : decode b_MO_balance 19 = .ok (.getfield 25, 3) := by decide +kernel
theorem d_MO_balance_22 : decode b_MO_balance 22 = .ok (.iload_n 1, 1) := by decide +kernel
theorem d_MO_balance_23 : decode b_MO_balance 23 = .ok (.iaload, 1) := by decide +kernel
theorem d_MO_balance_24 : decode b_MO_balance 24 = .ok (.iload_n 3, 1) := by decide +kernel
theorem d_MO_balance_25 : decode b_MO_balance 25 = .ok (.if_icmp .ge 33, 3) := by decide +kernel
theorem d_MO_balance_28 : decode b_MO_balance 28 = .ok (.aload_n 0, 1) := by decide +kernel
theorem d_MO_balance_29 : decode b_MO_balance 29 = .ok (.iload_n 1, 1) := by decide +kernel
theorem d_MO_balance_30 : decode b_MO_balance 30 = .ok (.aload_n 0, 1) := by decide +kernel
theorem d_MO_balance_31 : decode b_MO_balance 31 = .ok (.getfield 31, 3) := by decide +kernel
theorem d_MO_balance_34 : decode b_MO_balance 34 = .ok (.iconst 5, 1) := by decide +kernel
theorem d_MO_balance_35 : decode b_MO_balance 35 = .ok (.iload_n 2, 1) := by decide +kernel
theorem d_MO_balance_36 : decode b_MO_balance 36 = .ok (.imul, 1) := by decide +kernel
theorem d_MO_balance_37 : decode b_MO_balance 37 = .ok (.iaload, 1) := by decide +kernel
theorem d_MO_balance_38 : decode b_MO_balance 38 = .ok (.aload_n 0, 1) := by decide +kernel
theorem d_MO_balance_39 : decode b_MO_balance 39 = .ok (.getfield 34, 3) := by decide +kernel
theorem d_MO_balance_42 : decode b_MO_balance 42 = .ok (.iconst 5, 1) := by decide +kernel
theorem d_MO_balance_43 : decode b_MO_balance 43 = .ok (.iload_n 2, 1) := by decide +kernel
theorem d_MO_balance_44 : decode b_MO_balance 44 = .ok (.imul, 1) := by decide +kernel
theorem d_MO_balance_45 : decode b_MO_balance 45 = .ok (.iaload, 1) := by decide +kernel
theorem d_MO_balance_46 : decode b_MO_balance 46 = .ok (.invokevirtual 154, 3) := by decide +kernel
theorem d_MO_balance_49 : decode b_MO_balance 49 = .ok (.aload_n 0, 1) := by decide +kernel
theorem d_MO_balance_50 : decode b_MO_balance 50 = .ok (.iload_n 2, 1) := by decide +kernel
theorem d_MO_balance_51 : decode b_MO_balance 51 = .ok (.iconst 0, 1) := by decide +kernel
theorem d_MO_balance_52 : decode b_MO_balance 52 = .ok (.invokevirtual 186, 3) := by decide +kernel
theorem d_MO_balance_55 : decode b_MO_balance 55 = .ok (.goto (-37), 3) := by decide +kernel
theorem d_MO_balance_58 : decode b_MO_balance 58 = .ok (.aload_n 0, 1) := by decide +kernel
theorem d_MO_balance_59 : decode b_MO_balance 59 = .ok (.getfield 25, 3) := by decide +kernel
theorem d_MO_balance_62 : decode b_MO_balance 62 = .ok (.iload_n 1, 1) := by decide +kernel
theorem d_MO_balance_63 : decode b_MO_balance 63 = .ok (.iaload, 1) := by decide +kernel
theorem d_MO_balance_64 : decode b_MO_balance 64 = .ok (.iload_n 3, 1) := by decide +kernel
theorem d_MO_balance_65 : decode b_MO_balance 65 = .ok (.if_icmp .le 50, 3) := by decide +kernel
theorem d_MO_balance_68 : decode b_MO_balance 68 = .ok (.iconst 5, 1) := by decide +kernel
theorem d_MO_balance_69 : decode b_MO_balance 69 = .ok (.iload_n 1, 1) := by decide +kernel
theorem d_MO_balance_70 : decode b_MO_balance 70 = .ok (.imul, 1) := by decide +kernel
theorem d_MO_balance_71 : decode b_MO_balance 71 = .ok (.aload_n 0, 1) := by decide +kernel
theorem d_MO_balance_72 : decode b_MO_balance 72 = .ok (.getfield 25, 3) := by decide +kernel
theorem d_MO_balance_75 : decode b_MO_balance 75 = .ok (.iload_n 1, 1) := by decide +kernel
theorem d_MO_balance_76 : decode b_MO_balance 76 = .ok (.iaload, 1) := by decide +kernel
theorem d_MO_balance_77 : decode b_MO_balance 77 = .ok (.iadd, 1) := by decide +kernel
theorem d_MO_balance_78 : decode b_MO_balance 78 = .ok (.iconst 1, 1) := by decide +kernel
theorem d_MO_balance_79 : decode b_MO_balance 79 = .ok (.isub, 1) := by decide +kernel
theorem d_MO_balance_80 : decode b_MO_balance 80 = .ok (.istore 4, 2) := by decide +kernel
theorem d_MO_balance_82 : decode b_MO_balance 82 = .ok (.aload_n 0, 1) := by decide +kernel
theorem d_MO_balance_83 : decode b_MO_balance 83 = .ok (.iload_n 2, 1) := by decide +kernel
theorem d_MO_balance_84 : decode b_MO_balance 84 = .ok (.iconst 0, 1) := by decide +kernel
theorem d_MO_balance_85 : decode b_MO_balance 85 = .ok (.aload_n 0, 1) := by decide +kernel
theorem d_MO_balance_86 : decode b_MO_balance 86 = .ok (.getfield 31, 3) := by decide +kernel
theorem d_MO_balance_89 : decode b_MO_balance 89 = .ok (.iload 4, 2) := by decide +kernel
theorem d_MO_balance_91 : decode b_MO_balance 91 = .ok (.iaload, 1) := by decide +kernel
theorem d_MO_balance_92 : decode b_MO_balance 92 = .ok (.aload_n 0, 1) := by decide +kernel
theorem d_MO_balance_93 : decode b_MO_balance 93 = .ok (.getfield 34, 3) := by decide +kernel
theorem d_MO_balance_96 : decode b_MO_balance 96 = .ok (.iload 4, 2) := by decide +kernel
theorem d_MO_balance_98 : decode b_MO_balance 98 = .ok (.iaload, 1) := by decide +kernel
theorem d_MO_balance_99 : decode b_MO_balance 99 = .ok (.invokevirtual 179, 3) := by decide +kernel
theorem d_MO_balance_102 : decode b_MO_balance 102 = .ok (.aload_n 0, 1) := by decide +kernel
theorem d_MO_balance_103 : decode b_MO_balance 103 = .ok (.getfield 25, 3) := by decide +kernel
theorem d_MO_balance_106 : decode b_MO_balance 106 = .ok (.iload_n 1, 1) := by decide +kernel
theorem d_MO_balance_107 : decode b_MO_balance 107 = .ok (.dup2, 1) := by decide +kernel
theorem d_MO_balance_108 : decode b_MO_balance 108 = .ok (.iaload, 1) := by decide +kernel
theorem d_MO_balance_109 : decode b_MO_balance 109 = .ok (.iconst 1, 1) := by decide +kernel
theorem d_MO_balance_110 : decode b_MO_balance 110 = .ok (.isub, 1) := by decide +kernel
theorem d_MO_balance_111 : decode b_MO_balance 111 = .ok (.iastore, 1) := by decide +kernel
theorem d_MO_balance_112 : decode b_MO_balance 112 = .ok (.goto (-54), 3) := by decide +kernel
theorem d_MO_balance_115 : decode b_MO_balance 115 = .ok (.aload_n 0, 1) := by decide +kernel
theorem d_MO_balance_116 : decode b_MO_balance 116 = .ok (.getfield 19, 3) := by decide +kernel
theorem d_MO_balance_119 : decode b_MO_balance 119 = .ok (.iload_n 1, 1) := by decide +kernel
theorem d_MO_balance_120 : decode b_MO_balance 120 = .ok (.aload_n 0, 1) := by decide +kernel
theorem d_MO_balance_121 : decode b_MO_balance 121 = .ok (.getfield 31, 3) := by decide +kernel
theorem d_MO_balance_124 : decode b_MO_balance 124 = .ok (.iconst 5, 1) := by decide +kernel
theorem d_MO_balance_125 : decode b_MO_balance 125 = .ok (.iload_n 1, 1) := by decide +kernel
theorem d_MO_balance_126 : decode b_MO_balance 126 = .ok (.imul, 1) := by decide +kernel
theorem d_MO_balance_127 : decode b_MO_balance 127 = .ok (.iload_n 3, 1) := by decide +kernel
theorem d_MO_balance_128 : decode b_MO_balance 128 = .ok (.iadd, 1) := by decide +kernel
theorem d_MO_balance_129 : decode b_MO_balance 129 = .ok (.iconst 1, 1) := by decide +kernel
theorem d_MO_balance_130 : decode b_MO_balance 130 = .ok (.isub, 1) := by decide +kernel
theorem d_MO_balance_131 : decode b_MO_balance 131 = .ok (.iaload, 1) := by decide +kernel
theorem d_MO_balance_132 : decode b_MO_balance 132 = .ok (.iastore, 1) := by decide +kernel
theorem d_MO_balance_133 : decode b_MO_balance 133 = .ok (.aload_n 0, 1) := by decide +kernel
theorem d_MO_balance_134 : decode b_MO_balance 134 = .ok (.getfield 16, 3) := by decide +kernel
theorem d_MO_balance_137 : decode b_MO_balance 137 = .ok (.iload_n 2, 1) := by decide +kernel
theorem d_MO_balance_138 : decode b_MO_balance 138 = .ok (.aload_n 0, 1) := by decide +kernel
theorem d_MO_balance_139 : decode b_MO_balance 139 = .ok (.getfield 19, 3) := by decide +kernel
theorem d_MO_balance_142 : decode b_MO_balance 142 = .ok (.iload_n 1, 1) := by decide +kernel
theorem d_MO_balance_143 : decode b_MO_balance 143 = .ok (.iaload, 1) := by decide +kernel
theorem d_MO_balance_144 : decode b_MO_balance 144 = .ok (.iastore, 1) := by decide +kernel
theorem d_MO_balance_145 : decode b_MO_balance 145 = .ok (.return_, 1) := by decide +kernel
theorem d_MO_die_0 : decode b_MO_die 0 = .ok (.aload_n 0, 1) := by decide +kernel
theorem d_MO_die_1 : decode b_MO_die 1 = .ok (.getfield 7, 3) := by decide +kernel
theorem d_MO_die_4 : decode b_MO_die 4 = .ok (.iload_n 1, 1) := by decide +kernel
theorem d_MO_die_5 : decode b_MO_die 5 = .ok (.iconst 2, 1) := by decide +kernel
theorem d_MO_die_6 : decode b_MO_die 6 = .ok (.iastore, 1) := by decide +kernel
theorem d_MO_die_7 : decode b_MO_die 7 = .ok (.aload_n 0, 1) := by decide +kernel
theorem d_MO_die_8 : decode b_MO_die 8 = .ok (.iload_n 1, 1) := by decide +kernel
theorem d_MO_die_9 : decode b_MO_die 9 = .ok (.invokevirtual 94, 3) := by decide +kernel
theorem d_MO_die_12 : decode b_MO_die 12 = .ok (.aload_n 0, 1) := by decide +kernel
theorem d_MO_die_13 : decode b_MO_die 13 = .ok (.getfield 37, 3) := by decide +kernel
theorem d_MO_die_16 : decode b_MO_die 16 = .ok (.iload_n 1, 1) := by decide +kernel
theorem d_MO_die_17 : decode b_MO_die 17 = .ok (.iconst 0, 1) := by decide +kernel
theorem d_MO_die_18 : decode b_MO_die 18 = .ok (.iastore, 1) := by decide +kernel
theorem d_MO_die_19 : decode b_MO_die 19 = .ok (.iconst 0, 1) := by decide +kernel
theorem d_MO_die_20 : decode b_MO_die 20 = .ok (.istore_n 3, 1) := by decide +kernel
theorem d_MO_die_21 : decode b_MO_die 21 = .ok (.iload_n 3, 1) := by decide +kernel
theorem d_MO_die_22 : decode b_MO_die 22 = .ok (.iconst 4, 1) := by decide +kernel
theorem d_MO_die_23 : decode b_MO_die 23 = .ok (.if_icmp .ge 35, 3) := by decide +kernel
theorem d_MO_die_26 : decode b_MO_die 26 = .ok (.aload_n 0, 1) := by decide +kernel
theorem d_MO_die_27 : decode b_MO_die 27 = .ok (.getfield 43, 3) := by decide +kernel
theorem d_MO_die_30 : decode b_MO_die 30 = .ok (.iload_n 3, 1) := by decide +kernel
theorem d_MO_die_31 : decode b_MO_die 31 = .ok (.baload, 1) := by decide +kernel
theorem d_MO_die_32 : decode b_MO_die 32 = .ok (.ifCond .eq 20, 3) := by decide +kernel
theorem d_MO_die_35 : decode b_MO_die 35 = .ok (.iload_n 3, 1) := by decide +kernel
theorem d_MO_die_36 : decode b_MO_die 36 = .ok (.iload_n 2, 1) := by decide +kernel
theorem d_MO_die_37 : decode b_MO_die 37 = .ok (.if_icmp .eq 15, 3) := by decide +kernel
theorem d_MO_die_40 : decode b_MO_die 40 = .ok (.aload_n 0, 1) := by decide +kernel
theorem d_MO_die_41 : decode b_MO_die 41 = .ok (.getfield 37, 3) := by decide +kernel
theorem d_MO_die_44 : decode b_MO_die 44 = .ok (.iload_n 1, 1) := by decide +kernel
theorem d_MO_die_45 : decode b_MO_die 45 = .ok (.dup2, 1) := by decide +kernel
theorem d_MO_die_46 : decode b_MO_die 46 = .ok (.iaload, 1) := by decide +kernel
theorem d_MO_die_47 : decode b_MO_die 47 = .ok (.iconst 1, 1) := by decide +kernel
theorem d_MO_die_48 : decode b_MO_die 48 = .ok (.iload_n 3, 1) := by decide +kernel
theorem d_MO_die_49 : decode b_MO_die 49 = .ok (.ishl, 1) := by decide +kernel
theorem d_MO_die_50 : decode b_MO_die 50 = .ok (.ior, 1) := by decide +kernel
theorem d_MO_die_51 : decode b_MO_die 51 = .ok (.iastore, 1) := by decide +kernel
theorem d_MO_die_52 : decode b_MO_die 52 = .ok (.iinc 3 1, 3) := by decide +kernel
theorem d_MO_die_55 : decode b_MO_die 55 = .ok (.goto (-34), 3) := by decide +kernel
theorem d_MO_die_58 : decode b_MO_die 58 = .ok (.aload_n 0, 1) := by decide +kernel
theorem d_MO_die_59 : decode b_MO_die 59 = .ok (.iload_n 1, 1) := by decide +kernel
theorem d_MO_die_60 : decode b_MO_die 60 = .ok (.invokevirtual 98, 3) := by decide +kernel
theorem d_MO_die_63 : decode b_MO_die 63 = .ok (.return_, 1) := by decide +kernel
theorem d_MO_shrinks_0 : decode b_MO_shrinks 0 = .ok (.iload_n 2, 1) := by decide +kernel
theorem d_MO_shrinks_1 : decode b_MO_shrinks 1 = .ok (.aload_n 0, 1) := by decide +kernel
theorem d_MO_shrinks_2 : decode b_MO_shrinks 2 = .ok (.getfield 108, 3) := by decide +kernel
theorem d_MO_shrinks_5 : decode b_MO_shrinks 5 = .ok (.if_icmp .ne 13, 3) := by decide +kernel
theorem d_MO_shrinks_8 : decode b_MO_shrinks 8 = .ok (.aload_n 0, 1) := by decide +kernel
theorem d_MO_shrinks_9 : decode b_MO_shrinks 9 = .ok (.getfield 22, 3) := by decide +kernel
theorem d_MO_shrinks_12 : decode b_MO_shrinks 12 = .ok (.iload_n 2, 1) := by decide +kernel
theorem d_MO_shrinks_13 : decode b_MO_shrinks 13 = .ok (.iaload, 1) := by decide +kernel
theorem d_MO_shrinks_14 : decode b_MO_shrinks 14 = .ok (.iconst (-1), 1) := by decide +kernel
theorem d_MO_shrinks_15 : decode b_MO_shrinks 15 = .ok (.if_icmp .eq 9, 3) := by decide +kernel
theorem d_MO_shrinks_18 : decode b_MO_shrinks 18 = .ok (.aload_n 0, 1) := by decide +kernel
theorem d_MO_shrinks_19 : decode b_MO_shrinks 19 = .ok (.iload_n 2, 1) := by decide +kernel
theorem d_MO_shrinks_20 : decode b_MO_shrinks 20 = .ok (.invokevirtual 189, 3) := by decide +kernel
theorem d_MO_shrinks_23 : decode b_MO_shrinks 23 = .ok (.return_, 1) := by decide +kernel
theorem d_MO_shrinks_24 : decode b_MO_shrinks 24 = .ok (.aload_n 0, 1) := by decide +kernel
theorem d_MO_shrinks_25 : decode b_MO_shrinks 25 = .ok (.aload_n 0, 1) := by decide +kernel
theorem d_MO_shrinks_26 : decode b_MO_shrinks 26 = .ok (.getfield 34, 3) := by decide +kernel
theorem d_MO_shrinks_29 : decode b_MO_shrinks 29 = .ok (.iconst 5, 1) := by decide +kernel
theorem d_MO_shrinks_30 : decode b_MO_shrinks 30 = .ok (.iload_n 2, 1) := by decide +kernel
theorem d_MO_shrinks_31 : decode b_MO_shrinks 31 = .ok (.imul, 1) := by decide +kernel
theorem d_MO_shrinks_32 : decode b_MO_shrinks 32 = .ok (.iaload, 1) := by decide +kernel
theorem d_MO_shrinks_33 : decode b_MO_shrinks 33 = .ok (.putfield 108, 3) := by decide +kernel
theorem d_MO_shrinks_36 : decode b_MO_shrinks 36 = .ok (.aload_n 0, 1) := by decide +kernel
theorem d_MO_shrinks_37 : decode b_MO_shrinks 37 = .ok (.iload_n 2, 1) := by decide +kernel
theorem d_MO_shrinks_38 : decode b_MO_shrinks 38 = .ok (.iload_n 1, 1) := by decide +kernel
theorem d_MO_shrinks_39 : decode b_MO_shrinks 39 = .ok (.invokevirtual 198, 3) := by decide +kernel
theorem d_MO_shrinks_42 : decode b_MO_shrinks 42 = .ok (.return_, 1) := by decide +kernel
theorem d_MO_answer_0 : decode b_MO_answer 0 = .ok (.aload_n 0, 1) := by decide +kernel
theorem d_MO_answer_1 : decode b_MO_answer 1 = .ok (.aload_n 0, 1) := by decide +kernel
theorem d_MO_answer_2 : decode b_MO_answer 2 = .ok (.iload_n 1, 1) := by decide +kernel
theorem d_MO_answer_3 : decode b_MO_answer 3 = .ok (.invokevirtual 115, 3) := by decide +kernel
theorem d_MO_answer_6 : decode b_MO_answer 6 = .ok (.ifCond .ne 7, 3) := by decide +kernel
theorem d_MO_answer_9 : decode b_MO_answer 9 = .ok (.iconst 1, 1) := by decide +kernel
theorem d_MO_answer_10 : decode b_MO_answer 10 = .ok (.goto 4, 3) := by decide +kernel
theorem d_MO_answer_13 : decode b_MO_answer 13 = .ok (.iconst 0, 1) := by decide +kernel
theorem d_MO_answer_14 : decode b_MO_answer 14 = .ok (.iconst 1, 1) := by decide +kernel
theorem d_MO_answer_15 : decode b_MO_answer 15 = .ok (.invokevirtual 119, 3) := by decide +kernel
theorem d_MO_answer_18 : decode b_MO_answer 18 = .ok (.ifCond .ne 25, 3) := by decide +kernel
theorem d_MO_answer_21 : decode b_MO_answer 21 = .ok (.aload_n 0, 1) := by decide +kernel
theorem d_MO_answer_22 : decode b_MO_answer 22 = .ok (.aload_n 0, 1) := by decide +kernel
theorem d_MO_answer_23 : decode b_MO_answer 23 = .ok (.getfield 71, 3) := by decide +kernel
theorem d_MO_answer_26 : decode b_MO_answer 26 = .ok (.iload_n 1, 1) := by decide +kernel
theorem d_MO_answer_27 : decode b_MO_answer 27 = .ok (.baload, 1) := by decide +kernel
theorem d_MO_answer_28 : decode b_MO_answer 28 = .ok (.ifCond .ne 7, 3) := by decide +kernel
theorem d_MO_answer_31 : decode b_MO_answer 31 = .ok (.iconst 1, 1) := by decide +kernel
theorem d_MO_answer_32 : decode b_MO_answer 32 = .ok (.goto 4, 3) := by decide +kernel
theorem d_MO_answer_35 : decode b_MO_answer 35 = .ok (.iconst 0, 1) := by decide +kernel
theorem d_MO_answer_36 : decode b_MO_answer 36 = .ok (.iconst 2, 1) := by decide +kernel
theorem d_MO_answer_37 : decode b_MO_answer 37 = .ok (.invokevirtual 119, 3) := by decide +kernel
theorem d_MO_answer_40 : decode b_MO_answer 40 = .ok (.ifCond .eq 5, 3) := by decide +kernel
theorem d_MO_answer_43 : decode b_MO_answer 43 = .ok (.iconst 0, 1) := by decide +kernel
theorem d_MO_answer_44 : decode b_MO_answer 44 = .ok (.ireturn, 1) := by decide +kernel
theorem d_MO_answer_45 : decode b_MO_answer 45 = .ok (.aload_n 0, 1) := by decide +kernel
theorem d_MO_answer_46 : decode b_MO_answer 46 = .ok (.getfield 74, 3) := by decide +kernel
theorem d_MO_answer_49 : decode b_MO_answer 49 = .ok (.iload_n 1, 1) := by decide +kernel
theorem d_MO_answer_50 : decode b_MO_answer 50 = .ok (.iaload, 1) := by decide +kernel
theorem d_MO_answer_51 : decode b_MO_answer 51 = .ok (.ireturn, 1) := by decide +kernel
theorem d_MO_look_0 : decode b_MO_look 0 = .ok (.aload_n 0, 1) := by decide +kernel
theorem d_MO_look_1 : decode b_MO_look 1 = .ok (.aload_n 0, 1) := by decide +kernel
theorem d_MO_look_2 : decode b_MO_look 2 = .ok (.iload_n 1, 1) := by decide +kernel
theorem d_MO_look_3 : decode b_MO_look 3 = .ok (.invokevirtual 115, 3) := by decide +kernel
theorem d_MO_look_6 : decode b_MO_look 6 = .ok (.ifCond .eq 13, 3) := by decide +kernel
theorem d_MO_look_9 : decode b_MO_look 9 = .ok (.iload_n 2, 1) := by decide +kernel
theorem d_MO_look_10 : decode b_MO_look 10 = .ok (.iconst 0, 1) := by decide +kernel
theorem d_MO_look_11 : decode b_MO_look 11 = .ok (.bipush 8, 2) := by decide +kernel
theorem d_MO_look_13 : decode b_MO_look 13 = .ok (.invokestatic 101, 3) := by decide +kernel
theorem d_MO_look_16 : decode b_MO_look 16 = .ok (.ifCond .ne 7, 3) := by decide +kernel
theorem d_MO_look_19 : decode b_MO_look 19 = .ok (.iconst 1, 1) := by decide +kernel
theorem d_MO_look_20 : decode b_MO_look 20 = .ok (.goto 4, 3) := by decide +kernel
theorem d_MO_look_23 : decode b_MO_look 23 = .ok (.iconst 0, 1) := by decide +kernel
theorem d_MO_look_24 : decode b_MO_look 24 = .ok (.iconst 1, 1) := by decide +kernel
theorem d_MO_look_25 : decode b_MO_look 25 = .ok (.invokevirtual 119, 3) := by decide +kernel
theorem d_MO_look_28 : decode b_MO_look 28 = .ok (.ifCond .eq 5, 3) := by decide +kernel
theorem d_MO_look_31 : decode b_MO_look 31 = .ok (.iconst 0, 1) := by decide +kernel
theorem d_MO_look_32 : decode b_MO_look 32 = .ok (.ireturn, 1) := by decide +kernel
theorem d_MO_look_33 : decode b_MO_look 33 = .ok (.iload_n 2, 1) := by decide +kernel
theorem d_MO_look_34 : decode b_MO_look 34 = .ok (.iconst 4, 1) := by decide +kernel
theorem d_MO_look_35 : decode b_MO_look 35 = .ok (.if_icmp .le 16, 3) := by decide +kernel
theorem d_MO_look_38 : decode b_MO_look 38 = .ok (.aload_n 0, 1) := by decide +kernel
theorem d_MO_look_39 : decode b_MO_look 39 = .ok (.getfield 77, 3) := by decide +kernel
theorem d_MO_look_42 : decode b_MO_look 42 = .ok (.iconst 4, 1) := by decide +kernel
theorem d_MO_look_43 : decode b_MO_look 43 = .ok (.iload_n 1, 1) := by decide +kernel
theorem d_MO_look_44 : decode b_MO_look 44 = .ok (.imul, 1) := by decide +kernel
theorem d_MO_look_45 : decode b_MO_look 45 = .ok (.iload_n 2, 1) := by decide +kernel
theorem d_MO_look_46 : decode b_MO_look 46 = .ok (.iadd, 1) := by decide +kernel
theorem d_MO_look_47 : decode b_MO_look 47 = .ok (.iconst 5, 1) := by decide +kernel
theorem d_MO_look_48 : decode b_MO_look 48 = .ok (.isub, 1) := by decide +kernel
theorem d_MO_look_49 : decode b_MO_look 49 = .ok (.iaload, 1) := by decide +kernel
theorem d_MO_look_50 : decode b_MO_look 50 = .ok (.ireturn, 1) := by decide +kernel
theorem d_MO_look_51 : decode b_MO_look 51 = .ok (.iload_n 2, 1) := by decide +kernel
theorem d_MO_look_52 : decode b_MO_look 52 = .ok (.ifCond .ne 18, 3) := by decide +kernel
theorem d_MO_look_55 : decode b_MO_look 55 = .ok (.aload_n 0, 1) := by decide +kernel
theorem d_MO_look_56 : decode b_MO_look 56 = .ok (.getfield 43, 3) := by decide +kernel
theorem d_MO_look_59 : decode b_MO_look 59 = .ok (.iload_n 1, 1) := by decide +kernel
theorem d_MO_look_60 : decode b_MO_look 60 = .ok (.baload, 1) := by decide +kernel
theorem d_MO_look_61 : decode b_MO_look 61 = .ok (.ifCond .eq 7, 3) := by decide +kernel
theorem d_MO_look_64 : decode b_MO_look 64 = .ok (.iconst 0, 1) := by decide +kernel
theorem d_MO_look_65 : decode b_MO_look 65 = .ok (.goto 4, 3) := by decide +kernel
theorem d_MO_look_68 : decode b_MO_look 68 = .ok (.iconst 1, 1) := by decide +kernel
theorem d_MO_look_69 : decode b_MO_look 69 = .ok (.ireturn, 1) := by decide +kernel
theorem d_MO_look_70 : decode b_MO_look 70 = .ok (.aload_n 0, 1) := by decide +kernel
theorem d_MO_look_71 : decode b_MO_look 71 = .ok (.getfield 43, 3) := by decide +kernel
theorem d_MO_look_74 : decode b_MO_look 74 = .ok (.iload_n 1, 1) := by decide +kernel
theorem d_MO_look_75 : decode b_MO_look 75 = .ok (.baload, 1) := by decide +kernel
theorem d_MO_look_76 : decode b_MO_look 76 = .ok (.ifCond .ne 5, 3) := by decide +kernel
theorem d_MO_look_79 : decode b_MO_look 79 = .ok (.iconst (-1), 1) := by decide +kernel
theorem d_MO_look_80 : decode b_MO_look 80 = .ok (.ireturn, 1) := by decide +kernel
theorem d_MO_look_81 : decode b_MO_look 81 = .ok (.iload_n 2, 1) := by decide +kernel
theorem d_MO_look_82 : decode b_MO_look 82 = .ok (.iconst 1, 1) := by decide +kernel
theorem d_MO_look_83 : decode b_MO_look 83 = .ok (.if_icmp .ne 12, 3) := by decide +kernel
theorem d_MO_look_86 : decode b_MO_look 86 = .ok (.aload_n 0, 1) := by decide +kernel
theorem d_MO_look_87 : decode b_MO_look 87 = .ok (.getfield 50, 3) := by decide +kernel
theorem d_MO_look_90 : decode b_MO_look 90 = .ok (.iload_n 1, 1) := by decide +kernel
theorem d_MO_look_91 : decode b_MO_look 91 = .ok (.iaload, 1) := by decide +kernel
theorem d_MO_look_92 : decode b_MO_look 92 = .ok (.goto 37, 3) := by decide +kernel
theorem d_MO_look_95 : decode b_MO_look 95 = .ok (.iload_n 2, 1) := by decide +kernel
theorem d_MO_look_96 : decode b_MO_look 96 = .ok (.iconst 2, 1) := by decide +kernel
theorem d_MO_look_97 : decode b_MO_look 97 = .ok (.if_icmp .ne 12, 3) := by decide +kernel
theorem d_MO_look_100 : decode b_MO_look 100 = .ok (.aload_n 0, 1) := by decide +kernel
theorem d_MO_look_101 : decode b_MO_look 101 = .ok (.getfield 53, 3) := by decide +kernel
theorem d_MO_look_104 : decode b_MO_look 104 = .ok (.iload_n 1, 1) := by decide +kernel
theorem d_MO_look_105 : decode b_MO_look 105 = .ok (.iaload, 1) := by decide +kernel
theorem d_MO_look_106 : decode b_MO_look 106 = .ok (.goto 23, 3) := by decide +kernel
theorem d_MO_look_109 : decode b_MO_look 109 = .ok (.iload_n 2, 1) := by decide +kernel
theorem d_MO_look_110 : decode b_MO_look 110 = .ok (.iconst 3, 1) := by decide +kernel
theorem d_MO_look_111 : decode b_MO_look 111 = .ok (.if_icmp .ne 12, 3) := by decide +kernel
theorem d_MO_look_114 : decode b_MO_look 114 = .ok (.aload_n 0, 1) := by decide +kernel
theorem d_MO_look_115 : decode b_MO_look 115 = .ok (.getfield 56, 3) := by decide +kernel
theorem d_MO_look_118 : decode b_MO_look 118 = .ok (.iload_n 1, 1) := by decide +kernel
theorem d_MO_look_119 : decode b_MO_look 119 = .ok (.iaload, 1) := by decide +kernel
theorem d_MO_look_120 : decode b_MO_look 120 = .ok (.goto 9, 3) := by decide +kernel
theorem d_MO_look_123 : decode b_MO_look 123 = .ok (.aload_n 0, 1) := by decide +kernel
theorem d_MO_look_124 : decode b_MO_look 124 = .ok (.getfield 59, 3) := by decide +kernel
theorem d_MO_look_127 : decode b_MO_look 127 = .ok (.iload_n 1, 1) := by decide +kernel
theorem d_MO_look_128 : decode b_MO_look 128 = .ok (.iaload, 1) := by decide +kernel
theorem d_MO_look_129 : decode b_MO_look 129 = .ok (.ireturn, 1) := by decide +kernel
theorem d_MO_page_0 : decode b_MO_page 0 = .ok (.aload_n 0, 1) := by decide +kernel
theorem d_MO_page_1 : decode b_MO_page 1 = .ok (.iload_n 1, 1) := by decide +kernel
theorem d_MO_page_2 : decode b_MO_page 2 = .ok (.iconst 0, 1) := by decide +kernel
theorem d_MO_page_3 : decode b_MO_page 3 = .ok (.bipush 23, 2) := by decide +kernel
theorem d_MO_page_5 : decode b_MO_page 5 = .ok (.invokestatic 101, 3) := by decide +kernel
theorem d_MO_page_8 : decode b_MO_page 8 = .ok (.ifCond .eq 13, 3) := by decide +kernel
theorem d_MO_page_11 : decode b_MO_page 11 = .ok (.iload_n 2, 1) := by decide +kernel
theorem d_MO_page_12 : decode b_MO_page 12 = .ok (.iconst 0, 1) := by decide +kernel
theorem d_MO_page_13 : decode b_MO_page 13 = .ok (.bipush 6, 2) := by decide +kernel
theorem d_MO_page_15 : decode b_MO_page 15 = .ok (.invokestatic 101, 3) := by decide +kernel
theorem d_MO_page_18 : decode b_MO_page 18 = .ok (.ifCond .ne 7, 3) := by decide +kernel
theorem d_MO_page_21 : decode b_MO_page 21 = .ok (.iconst 1, 1) := by decide +kernel
theorem d_MO_page_22 : decode b_MO_page 22 = .ok (.goto 4, 3) := by decide +kernel
theorem d_MO_page_25 : decode b_MO_page 25 = .ok (.iconst 0, 1) := by decide +kernel
theorem d_MO_page_26 : decode b_MO_page 26 = .ok (.iconst 1, 1) := by decide +kernel
theorem d_MO_page_27 : decode b_MO_page 27 = .ok (.invokevirtual 119, 3) := by decide +kernel
theorem d_MO_page_30 : decode b_MO_page 30 = .ok (.ifCond .eq 5, 3) := by decide +kernel
theorem d_MO_page_33 : decode b_MO_page 33 = .ok (.iconst 0, 1) := by decide +kernel
theorem d_MO_page_34 : decode b_MO_page 34 = .ok (.ireturn, 1) := by decide +kernel
theorem d_MO_page_35 : decode b_MO_page 35 = .ok (.iload_n 2, 1) := by decide +kernel
theorem d_MO_page_36 : decode b_MO_page 36 = .ok (.ifCond .ne 10, 3) := by decide +kernel
theorem d_MO_page_39 : decode b_MO_page 39 = .ok (.aload_n 0, 1) := by decide +kernel
theorem d_MO_page_40 : decode b_MO_page 40 = .ok (.getfield 7, 3) := by decide +kernel
theorem d_MO_page_43 : decode b_MO_page 43 = .ok (.iload_n 1, 1) := by decide +kernel
theorem d_MO_page_44 : decode b_MO_page 44 = .ok (.iaload, 1) := by decide +kernel
theorem d_MO_page_45 : decode b_MO_page 45 = .ok (.ireturn, 1) := by decide +kernel
theorem d_MO_page_46 : decode b_MO_page 46 = .ok (.aload_n 0, 1) := by decide +kernel
theorem d_MO_page_47 : decode b_MO_page 47 = .ok (.getfield 7, 3) := by decide +kernel
theorem d_MO_page_50 : decode b_MO_page 50 = .ok (.iload_n 1, 1) := by decide +kernel
theorem d_MO_page_51 : decode b_MO_page 51 = .ok (.iaload, 1) := by decide +kernel
theorem d_MO_page_52 : decode b_MO_page 52 = .ok (.iconst 1, 1) := by decide +kernel
theorem d_MO_page_53 : decode b_MO_page 53 = .ok (.if_icmp .eq 6, 3) := by decide +kernel
theorem d_MO_page_56 : decode b_MO_page 56 = .ok (.bipush (-2), 2) := by decide +kernel
theorem d_MO_page_58 : decode b_MO_page 58 = .ok (.ireturn, 1) := by decide +kernel
theorem d_MO_page_59 : decode b_MO_page 59 = .ok (.iload_n 2, 1) := by decide +kernel
theorem d_MO_page_60 : decode b_MO_page 60 = .ok (.tableswitch 71 1 5 #[36, 43, 50, 57, 64], 36) := by decide +kernel
theorem d_MO_page_96 : decode b_MO_page 96 = .ok (.aload_n 0, 1) := by decide +kernel
theorem d_MO_page_97 : decode b_MO_page 97 = .ok (.getfield 13, 3) := by decide +kernel
theorem d_MO_page_100 : decode b_MO_page 100 = .ok (.iload_n 1, 1) := by decide +kernel
theorem d_MO_page_101 : decode b_MO_page 101 = .ok (.iaload, 1) := by decide +kernel
theorem d_MO_page_102 : decode b_MO_page 102 = .ok (.ireturn, 1) := by decide +kernel
theorem d_MO_page_103 : decode b_MO_page 103 = .ok (.aload_n 0, 1) := by decide +kernel
theorem d_MO_page_104 : decode b_MO_page 104 = .ok (.getfield 16, 3) := by decide +kernel
theorem d_MO_page_107 : decode b_MO_page 107 = .ok (.iload_n 1, 1) := by decide +kernel
theorem d_MO_page_108 : decode b_MO_page 108 = .ok (.iaload, 1) := by decide +kernel
theorem d_MO_page_109 : decode b_MO_page 109 = .ok (.ireturn, 1) := by decide +kernel
theorem d_MO_page_110 : decode b_MO_page 110 = .ok (.aload_n 0, 1) := by decide +kernel
theorem d_MO_page_111 : decode b_MO_page 111 = .ok (.getfield 19, 3) := by decide +kernel
theorem d_MO_page_114 : decode b_MO_page 114 = .ok (.iload_n 1, 1) := by decide +kernel
theorem d_MO_page_115 : decode b_MO_page 115 = .ok (.iaload, 1) := by decide +kernel
theorem d_MO_page_116 : decode b_MO_page 116 = .ok (.ireturn, 1) := by decide +kernel
theorem d_MO_page_117 : decode b_MO_page 117 = .ok (.aload_n 0, 1) := by decide +kernel
theorem d_MO_page_118 : decode b_MO_page 118 = .ok (.getfield 22, 3) := by decide +kernel
theorem d_MO_page_121 : decode b_MO_page 121 = .ok (.iload_n 1, 1) := by decide +kernel
theorem d_MO_page_122 : decode b_MO_page 122 = .ok (.iaload, 1) := by decide +kernel
theorem d_MO_page_123 : decode b_MO_page 123 = .ok (.ireturn, 1) := by decide +kernel
theorem d_MO_page_124 : decode b_MO_page 124 = .ok (.aload_n 0, 1) := by decide +kernel
theorem d_MO_page_125 : decode b_MO_page 125 = .ok (.getfield 25, 3) := by decide +kernel
theorem d_MO_page_128 : decode b_MO_page 128 = .ok (.iload_n 1, 1) := by decide +kernel
theorem d_MO_page_129 : decode b_MO_page 129 = .ok (.iaload, 1) := by decide +kernel
theorem d_MO_page_130 : decode b_MO_page 130 = .ok (.ireturn, 1) := by decide +kernel
theorem d_MO_page_131 : decode b_MO_page 131 = .ok (.aload_n 0, 1) := by decide +kernel
theorem d_MO_page_132 : decode b_MO_page 132 = .ok (.getfield 28, 3) := by decide +kernel
theorem d_MO_page_135 : decode b_MO_page 135 = .ok (.iload_n 1, 1) := by decide +kernel
theorem d_MO_page_136 : decode b_MO_page 136 = .ok (.iaload, 1) := by decide +kernel
theorem d_MO_page_137 : decode b_MO_page 137 = .ok (.ireturn, 1) := by decide +kernel
theorem d_MO_entry_0 : decode b_MO_entry 0 = .ok (.aload_n 0, 1) := by decide +kernel
theorem d_MO_entry_1 : decode b_MO_entry 1 = .ok (.aload_n 0, 1) := by decide +kernel
theorem d_MO_entry_2 : decode b_MO_entry 2 = .ok (.iload_n 1, 1) := by decide +kernel
theorem d_MO_entry_3 : decode b_MO_entry 3 = .ok (.invokevirtual 204, 3) := by decide +kernel
theorem d_MO_entry_6 : decode b_MO_entry 6 = .ok (.ifCond .eq 31, 3) := by decide +kernel
theorem d_MO_entry_9 : decode b_MO_entry 9 = .ok (.iload_n 2, 1) := by decide +kernel
theorem d_MO_entry_10 : decode b_MO_entry 10 = .ok (.iconst 0, 1) := by decide +kernel
theorem d_MO_entry_11 : decode b_MO_entry 11 = .ok (.aload_n 0, 1) := by decide +kernel
theorem d_MO_entry_12 : decode b_MO_entry 12 = .ok (.iload_n 1, 1) := by decide +kernel
theorem d_MO_entry_13 : decode b_MO_entry 13 = .ok (.invokevirtual 204, 3) := by decide +kernel
theorem d_MO_entry_16 : decode b_MO_entry 16 = .ok (.ifCond .eq 14, 3) := by decide +kernel
theorem d_MO_entry_19 : decode b_MO_entry 19 = .ok (.aload_n 0, 1) := by decide +kernel
theorem d_MO_entry_20 : decode b_MO_entry 20 = .ok (.getfield 25, 3) := by decide +kernel
theorem d_MO_entry_23 : decode b_MO_entry 23 = .ok (.iload_n 1, 1) := by decide +kernel
theorem d_MO_entry_24 : decode b_MO_entry 24 = .ok (.iaload, 1) := by decide +kernel
theorem d_MO_entry_25 : decode b_MO_entry 25 = .ok (.iconst 1, 1) := by decide +kernel
theorem d_MO_entry_26 : decode b_MO_entry 26 = .ok (.isub, 1) := by decide +kernel
theorem d_MO_entry_27 : decode b_MO_entry 27 = .ok (.goto 4, 3) := by decide +kernel
theorem d_MO_entry_30 : decode b_MO_entry 30 = .ok (.iconst 0, 1) := by decide +kernel
theorem d_MO_entry_31 : decode b_MO_entry 31 = .ok (.invokestatic 101, 3) := by decide +kernel
theorem d_MO_entry_34 : decode b_MO_entry 34 = .ok (.ifCond .ne 7, 3) := by decide +kernel
theorem d_MO_entry_37 : decode b_MO_entry 37 = .ok (.iconst 1, 1) := by decide +kernel
theorem d_MO_entry_38 : decode b_MO_entry 38 = .ok (.goto 4, 3) := by decide +kernel
theorem d_MO_entry_41 : decode b_MO_entry 41 = .ok (.iconst 0, 1) := by decide +kernel
theorem d_MO_entry_42 : decode b_MO_entry 42 = .ok (.iconst 1, 1) := by decide +kernel
theorem d_MO_entry_43 : decode b_MO_entry 43 = .ok (.invokevirtual 119, 3) := by decide +kernel
theorem d_MO_entry_46 : decode b_MO_entry 46 = .ok (.ifCond .eq 5, 3) := by decide +kernel
theorem d_MO_entry_49 : decode b_MO_entry 49 = .ok (.iconst 0, 1) := by decide +kernel
theorem d_MO_entry_50 : decode b_MO_entry 50 = .ok (.ireturn, 1) := by decide +kernel
theorem d_MO_entry_51 : decode b_MO_entry 51 = .ok (.iload_n 3, 1) := by decide +kernel
theorem d_MO_entry_52 : decode b_MO_entry 52 = .ok (.ifCond .eq 16, 3) := by decide +kernel
theorem d_MO_entry_55 : decode b_MO_entry 55 = .ok (.aload_n 0, 1) := by decide +kernel
theorem d_MO_entry_56 : decode b_MO_entry 56 = .ok (.getfield 34, 3) := by decide +kernel
theorem d_MO_entry_59 : decode b_MO_entry 59 = .ok (.iconst 5, 1) := by decide +kernel
theorem d_MO_entry_60 : decode b_MO_entry 60 = .ok (.iload_n 1, 1) := by decide +kernel
theorem d_MO_entry_61 : decode b_MO_entry 61 = .ok (.imul, 1) := by decide +kernel
theorem d_MO_entry_62 : decode b_MO_entry 62 = .ok (.iload_n 2, 1) := by decide +kernel
theorem d_MO_entry_63 : decode b_MO_entry 63 = .ok (.iadd, 1) := by decide +kernel
theorem d_MO_entry_64 : decode b_MO_entry 64 = .ok (.iaload, 1) := by decide +kernel
theorem d_MO_entry_65 : decode b_MO_entry 65 = .ok (.goto 13, 3) := by decide +kernel
theorem d_MO_entry_68 : decode b_MO_entry 68 = .ok (.aload_n 0, 1) := by decide +kernel
theorem d_MO_entry_69 : decode b_MO_entry 69 = .ok (.getfield 31, 3) := by decide +kernel
theorem d_MO_entry_72 : decode b_MO_entry 72 = .ok (.iconst 5, 1) := by decide +kernel
theorem d_MO_entry_73 : decode b_MO_entry 73 = .ok (.iload_n 1, 1) := by decide +kernel
theorem d_MO_entry_74 : decode b_MO_entry 74 = .ok (.imul, 1) := by decide +kernel
theorem d_MO_entry_75 : decode b_MO_entry 75 = .ok (.iload_n 2, 1) := by decide +kernel
theorem d_MO_entry_76 : decode b_MO_entry 76 = .ok (.iadd, 1) := by decide +kernel
theorem d_MO_entry_77 : decode b_MO_entry 77 = .ok (.iaload, 1) := by decide +kernel
theorem d_MO_entry_78 : decode b_MO_entry 78 = .ok (.ireturn, 1) := by decide +kernel
theorem d_MO_isNode_0 : decode b_MO_isNode 0 = .ok (.iload_n 1, 1) := by decide +kernel
theorem d_MO_isNode_1 : decode b_MO_isNode 1 = .ok (.iconst 0, 1) := by decide +kernel
theorem d_MO_isNode_2 : decode b_MO_isNode 2 = .ok (.bipush 23, 2) := by decide +kernel
theorem d_MO_isNode_4 : decode b_MO_isNode 4 = .ok (.invokestatic 101, 3) := by decide +kernel
theorem d_MO_isNode_7 : decode b_MO_isNode 7 = .ok (.ifCond .eq 17, 3) := by decide +kernel
theorem d_MO_isNode_10 : decode b_MO_isNode 10 = .ok (.aload_n 0, 1) := by decide +kernel
theorem d_MO_isNode_11 : decode b_MO_isNode 11 = .ok (.getfield 7, 3) := by decide +kernel
theorem d_MO_isNode_14 : decode b_MO_isNode 14 = .ok (.iload_n 1, 1) := by decide +kernel
theorem d_MO_isNode_15 : decode b_MO_isNode 15 = .ok (.iaload, 1) := by decide +kernel
theorem d_MO_isNode_16 : decode b_MO_isNode 16 = .ok (.iconst 1, 1) := by decide +kernel
theorem d_MO_isNode_17 : decode b_MO_isNode 17 = .ok (.if_icmp .ne 7, 3) := by decide +kernel
theorem d_MO_isNode_20 : decode b_MO_isNode 20 = .ok (.iconst 1, 1) := by decide +kernel
theorem d_MO_isNode_21 : decode b_MO_isNode 21 = .ok (.goto 4, 3) := by decide +kernel
theorem d_MO_isNode_24 : decode b_MO_isNode 24 = .ok (.iconst 0, 1) := by decide +kernel
theorem d_MO_isNode_25 : decode b_MO_isNode 25 = .ok (.ireturn, 1) := by decide +kernel
theorem d_MO_root_0 : decode b_MO_root 0 = .ok (.aload_n 0, 1) := by decide +kernel
theorem d_MO_root_1 : decode b_MO_root 1 = .ok (.iconst 0, 1) := by decide +kernel
theorem d_MO_root_2 : decode b_MO_root 2 = .ok (.putfield 83, 3) := by decide +kernel
theorem d_MO_root_5 : decode b_MO_root 5 = .ok (.aload_n 0, 1) := by decide +kernel
theorem d_MO_root_6 : decode b_MO_root 6 = .ok (.getfield 108, 3) := by decide +kernel
theorem d_MO_root_9 : decode b_MO_root 9 = .ok (.ireturn, 1) := by decide +kernel
theorem d_MO_queued_0 : decode b_MO_queued 0 = .ok (.aload_n 0, 1) := by decide +kernel
theorem d_MO_queued_1 : decode b_MO_queued 1 = .ok (.iconst 0, 1) := by decide +kernel
theorem d_MO_queued_2 : decode b_MO_queued 2 = .ok (.putfield 83, 3) := by decide +kernel
theorem d_MO_queued_5 : decode b_MO_queued 5 = .ok (.aload_n 0, 1) := by decide +kernel
theorem d_MO_queued_6 : decode b_MO_queued 6 = .ok (.getfield 91, 3) := by decide +kernel
theorem d_MO_queued_9 : decode b_MO_queued 9 = .ok (.ireturn, 1) := by decide +kernel
theorem d_MO_under_0 : decode b_MO_under 0 = .ok (.aload_n 0, 1) := by decide +kernel
theorem d_MO_under_1 : decode b_MO_under 1 = .ok (.aload_n 0, 1) := by decide +kernel
theorem d_MO_under_2 : decode b_MO_under 2 = .ok (.iload_n 1, 1) := by decide +kernel
theorem d_MO_under_3 : decode b_MO_under 3 = .ok (.invokevirtual 204, 3) := by decide +kernel
theorem d_MO_under_6 : decode b_MO_under 6 = .ok (.ifCond .ne 7, 3) := by decide +kernel
theorem d_MO_under_9 : decode b_MO_under 9 = .ok (.iconst 1, 1) := by decide +kernel
theorem d_MO_under_10 : decode b_MO_under 10 = .ok (.goto 4, 3) := by decide +kernel
theorem d_MO_under_13 : decode b_MO_under 13 = .ok (.iconst 0, 1) := by decide +kernel
theorem d_MO_under_14 : decode b_MO_under 14 = .ok (.iconst 1, 1) := by decide +kernel
theorem d_MO_under_15 : decode b_MO_under 15 = .ok (.invokevirtual 119, 3) := by decide +kernel
theorem d_MO_under_18 : decode b_MO_under 18 = .ok (.ifCond .eq 5, 3) := by decide +kernel
theorem d_MO_under_21 : decode b_MO_under 21 = .ok (.iconst 0, 1) := by decide +kernel
theorem d_MO_under_22 : decode b_MO_under 22 = .ok (.ireturn, 1) := by decide +kernel
theorem d_MO_under_23 : decode b_MO_under 23 = .ok (.iconst 0, 1) := by decide +kernel
theorem d_MO_under_24 : decode b_MO_under 24 = .ok (.istore_n 2, 1) := by decide +kernel
theorem d_MO_under_25 : decode b_MO_under 25 = .ok (.iconst 1, 1) := by decide +kernel
theorem d_MO_under_26 : decode b_MO_under 26 = .ok (.istore_n 3, 1) := by decide +kernel
theorem d_MO_under_27 : decode b_MO_under 27 = .ok (.aload_n 0, 1) := by decide +kernel
theorem d_MO_under_28 : decode b_MO_under 28 = .ok (.getfield 80, 3) := by decide +kernel
theorem d_MO_under_31 : decode b_MO_under 31 = .ok (.iconst 0, 1) := by decide +kernel
theorem d_MO_under_32 : decode b_MO_under 32 = .ok (.iload_n 1, 1) := by decide +kernel
theorem d_MO_under_33 : decode b_MO_under 33 = .ok (.iastore, 1) := by decide +kernel
theorem d_MO_under_34 : decode b_MO_under 34 = .ok (.iload_n 3, 1) := by decide +kernel
theorem d_MO_under_35 : decode b_MO_under 35 = .ok (.ifCond .le 93, 3) := by decide +kernel
theorem d_MO_under_38 : decode b_MO_under 38 = .ok (.iinc 3 (-1), 3) := by decide +kernel
theorem d_MO_under_41 : decode b_MO_under 41 = .ok (.aload_n 0, 1) := by decide +kernel
theorem d_MO_under_42 : decode b_MO_under 42 = .ok (.getfield 80, 3) := by decide +kernel
theorem d_MO_under_45 : decode b_MO_under 45 = .ok (.iload_n 3, 1) := by decide +kernel
theorem d_MO_under_46 : decode b_MO_under 46 = .ok (.iaload, 1) := by decide +kernel
theorem d_MO_under_47 : decode b_MO_under 47 = .ok (.istore 4, 2) := by decide +kernel
theorem d_MO_under_49 : decode b_MO_under 49 = .ok (.iload_n 2, 1) := by decide +kernel
theorem d_MO_under_50 : decode b_MO_under 50 = .ok (.aload_n 0, 1) := by decide +kernel
theorem d_MO_under_51 : decode b_MO_under 51 = .ok (.getfield 13, 3) := by decide +kernel
theorem d_MO_under_54 : decode b_MO_under 54 = .ok (.iload 4, 2) := by decide +kernel
theorem d_MO_under_56 : decode b_MO_under 56 = .ok (.iaload, 1) := by decide +kernel
theorem d_MO_under_57 : decode b_MO_under 57 = .ok (.ifCond .ne 13, 3) := by decide +kernel
theorem d_MO_under_60 : decode b_MO_under 60 = .ok (.aload_n 0, 1) := by decide +kernel
theorem d_MO_under_61 : decode b_MO_under 61 = .ok (.getfield 25, 3) := by decide +kernel
theorem d_MO_under_64 : decode b_MO_under 64 = .ok (.iload 4, 2) := by decide +kernel
theorem d_MO_under_66 : decode b_MO_under 66 = .ok (.iaload, 1) := by decide +kernel
theorem d_MO_under_67 : decode b_MO_under 67 = .ok (.goto 4, 3) := by decide +kernel
theorem d_MO_under_70 : decode b_MO_under 70 = .ok (.iconst 0, 1) := by decide +kernel
theorem d_MO_under_71 : decode b_MO_under 71 = .ok (.iadd, 1) := by decide +kernel
theorem d_MO_under_72 : decode b_MO_under 72 = .ok (.istore_n 2, 1) := by decide +kernel
theorem d_MO_under_73 : decode b_MO_under 73 = .ok (.iconst 0, 1) := by decide +kernel
theorem d_MO_under_74 : decode b_MO_under 74 = .ok (.istore 5, 2) := by decide +kernel
theorem d_MO_under_76 : decode b_MO_under 76 = .ok (.iload 5, 2) := by decide +kernel
theorem d_MO_under_78 : decode b_MO_under 78 = .ok (.aload_n 0, 1) := by decide +kernel
theorem d_MO_under_79 : decode b_MO_under 79 = .ok (.getfield 25, 3) := by decide +kernel
theorem d_MO_under_82 : decode b_MO_under 82 = .ok (.iload 4, 2) := by decide +kernel
theorem d_MO_under_84 : decode b_MO_under 84 = .ok (.iaload, 1) := by decide +kernel
theorem d_MO_under_85 : decode b_MO_under 85 = .ok (.if_icmp .ge 40, 3) := by decide +kernel
theorem d_MO_under_88 : decode b_MO_under 88 = .ok (.aload_n 0, 1) := by decide +kernel
theorem d_MO_under_89 : decode b_MO_under 89 = .ok (.getfield 13, 3) := by decide +kernel
theorem d_MO_under_92 : decode b_MO_under 92 = .ok (.iload 4, 2) := by decide +kernel
theorem d_MO_under_94 : decode b_MO_under 94 = .ok (.iaload, 1) := by decide +kernel
theorem d_MO_under_95 : decode b_MO_under 95 = .ok (.ifCond .le 30, 3) := by decide +kernel
theorem d_MO_under_98 : decode b_MO_under 98 = .ok (.aload_n 0, 1) := by decide +kernel
theorem d_MO_under_99 : decode b_MO_under 99 = .ok (.getfield 80, 3) := by decide +kernel
theorem d_MO_under_102 : decode b_MO_under 102 = .ok (.iload_n 3, 1) := by decide +kernel
theorem d_MO_under_103 : decode b_MO_under 103 = .ok (.aload_n 0, 1) := by decide +kernel
theorem d_MO_under_104 : decode b_MO_under 104 = .ok (.getfield 34, 3) := by decide +kernel
theorem d_MO_under_107 : decode b_MO_under 107 = .ok (.iconst 5, 1) := by decide +kernel
theorem d_MO_under_108 : decode b_MO_under 108 = .ok (.iload 4, 2) := by decide +kernel
theorem d_MO_under_110 : decode b_MO_under 110 = .ok (.imul, 1) := by decide +kernel
theorem d_MO_under_111 : decode b_MO_under 111 = .ok (.iload 5, 2) := by decide +kernel
theorem d_MO_under_113 : decode b_MO_under 113 = .ok (.iadd, 1) := by decide +kernel
theorem d_MO_under_114 : decode b_MO_under 114 = .ok (.iaload, 1) := by decide +kernel
theorem d_MO_under_115 : decode b_MO_under 115 = .ok (.iastore, 1) := by decide +kernel
theorem d_MO_under_116 : decode b_MO_under 116 = .ok (.iinc 3 1, 3) := by decide +kernel
theorem d_MO_under_119 : decode b_MO_under 119 = .ok (.iinc 5 1, 3) := by decide +kernel
theorem d_MO_under_122 : decode b_MO_under 122 = .ok (.goto (-46), 3) := by decide +kernel
theorem d_MO_under_125 : decode b_MO_under 125 = .ok (.goto (-91), 3) := by decide +kernel
theorem d_MO_under_128 : decode b_MO_under 128 = .ok (.iload_n 2, 1) := by decide +kernel
theorem d_MO_under_129 : decode b_MO_under 129 = .ok (.ireturn, 1) := by decide +kernel
end
section
theorem d_LT_init_0 : decode b_LT_init 0 = .ok (.aload_n 0, 1) := by decide +kernel
theorem d_LT_init_1 : decode b_LT_init 1 = .ok (.invokespecial 3, 3) := by decide +kernel
theorem d_LT_init_4 : decode b_LT_init 4 = .ok (.aload_n 0, 1) := by decide +kernel
theorem d_LT_init_5 : decode b_LT_init 5 = .ok (.bipush 24, 2) := by decide +kernel
theorem d_LT_init_7 : decode b_LT_init 7 = .ok (.anewarray 9, 3) := by decide +kernel
theorem d_LT_init_10 : decode b_LT_init 10 = .ok (.putfield 11, 3) := by decide +kernel
theorem d_LT_init_13 : decode b_LT_init 13 = .ok (.iconst 0, 1) := by decide +kernel
theorem d_LT_init_14 : decode b_LT_init 14 = .ok (.istore_n 1, 1) := by decide +kernel
theorem d_LT_init_15 : decode b_LT_init 15 = .ok (.iload_n 1, 1) := by decide +kernel
theorem d_LT_init_16 : decode b_LT_init 16 = .ok (.bipush 24, 2) := by decide +kernel
theorem d_LT_init_18 : decode b_LT_init 18 = .ok (.if_icmp .ge 23, 3) := by decide +kernel
theorem d_LT_init_21 : decode b_LT_init 21 = .ok (.aload_n 0, 1) := by decide +kernel
theorem d_LT_init_22 : decode b_LT_init 22 = .ok (.getfield 11, 3) := by decide +kernel
theorem d_LT_init_25 : decode b_LT_init 25 = .ok (.iload_n 1, 1) := by decide +kernel
theorem d_LT_init_26 : decode b_LT_init 26 = .ok (.new 9, 3) := by decide +kernel
theorem d_LT_init_29 : decode b_LT_init 29 = .ok (.dup, 1) := by decide +kernel
theorem d_LT_init_30 : decode b_LT_init 30 = .ok (.iload_n 1, 1) := by decide +kernel
theorem d_LT_init_31 : decode b_LT_init 31 = .ok (.invokespecial 15, 3) := by decide +kernel
theorem d_LT_init_34 : decode b_LT_init 34 = .ok (.aastore, 1) := by decide +kernel
theorem d_LT_init_35 : decode b_LT_init 35 = .ok (.iinc 1 1, 3) := by decide +kernel
theorem d_LT_init_38 : decode b_LT_init 38 = .ok (.goto (-23), 3) := by decide +kernel
theorem d_LT_init_41 : decode b_LT_init 41 = .ok (.aload_n 0, 1) := by decide +kernel
theorem d_LT_init_42 : decode b_LT_init 42 = .ok (.new 9, 3) := by decide +kernel
theorem d_LT_init_45 : decode b_LT_init 45 = .ok (.dup, 1) := by decide +kernel
theorem d_LT_init_46 : decode b_LT_init 46 = .ok (.iconst (-1), 1) := by decide +kernel
theorem d_LT_init_47 : decode b_LT_init 47 = .ok (.invokespecial 15, 3) := by decide +kernel
theorem d_LT_init_50 : decode b_LT_init 50 = .ok (.putfield 18, 3) := by decide +kernel
theorem d_LT_init_53 : decode b_LT_init 53 = .ok (.aload_n 0, 1) := by decide +kernel
theorem d_LT_init_54 : decode b_LT_init 54 = .ok (.getfield 18, 3) := by decide +kernel
theorem d_LT_init_57 : decode b_LT_init 57 = .ok (.iconst 2, 1) := by decide +kernel
theorem d_LT_init_58 : decode b_LT_init 58 = .ok (.putfield 22, 3) := by decide +kernel
theorem d_LT_init_61 : decode b_LT_init 61 = .ok (.aload_n 0, 1) := by decide +kernel
theorem d_LT_init_62 : decode b_LT_init 62 = .ok (.iconst 4, 1) := by decide +kernel
theorem d_LT_init_63 : decode b_LT_init 63 = .ok (.anewarray 26, 3) := by decide +kernel
theorem d_LT_init_66 : decode b_LT_init 66 = .ok (.putfield 28, 3) := by decide +kernel
theorem d_LT_init_69 : decode b_LT_init 69 = .ok (.iconst 0, 1) := by decide +kernel
theorem d_LT_init_70 : decode b_LT_init 70 = .ok (.istore_n 1, 1) := by decide +kernel
theorem d_LT_init_71 : decode b_LT_init 71 = .ok (.iload_n 1, 1) := by decide +kernel
theorem d_LT_init_72 : decode b_LT_init 72 = .ok (.iconst 4, 1) := by decide +kernel
theorem d_LT_init_73 : decode b_LT_init 73 = .ok (.if_icmp .ge 23, 3) := by decide +kernel
theorem d_LT_init_76 : decode b_LT_init 76 = .ok (.aload_n 0, 1) := by decide +kernel
theorem d_LT_init_77 : decode b_LT_init 77 = .ok (.getfield 28, 3) := by decide +kernel
theorem d_LT_init_80 : decode b_LT_init 80 = .ok (.iload_n 1, 1) := by decide +kernel
theorem d_LT_init_81 : decode b_LT_init 81 = .ok (.new 26, 3) := by decide +kernel
theorem d_LT_init_84 : decode b_LT_init 84 = .ok (.dup, 1) := by decide +kernel
theorem d_LT_init_85 : decode b_LT_init 85 = .ok (.iload_n 1, 1) := by decide +kernel
theorem d_LT_init_86 : decode b_LT_init 86 = .ok (.invokespecial 32, 3) := by decide +kernel
theorem d_LT_init_89 : decode b_LT_init 89 = .ok (.aastore, 1) := by decide +kernel
theorem d_LT_init_90 : decode b_LT_init 90 = .ok (.iinc 1 1, 3) := by decide +kernel
theorem d_LT_init_93 : decode b_LT_init 93 = .ok (.goto (-22), 3) := by decide +kernel
theorem d_LT_init_96 : decode b_LT_init 96 = .ok (.aload_n 0, 1) := by decide +kernel
theorem d_LT_init_97 : decode b_LT_init 97 = .ok (.new 33, 3) := by decide +kernel
theorem d_LT_init_100 : decode b_LT_init 100 = .ok (.dup, 1) := by decide +kernel
theorem d_LT_init_101 : decode b_LT_init 101 = .ok (.invokespecial 35, 3) := by decide +kernel
theorem d_LT_init_104 : decode b_LT_init 104 = .ok (.putfield 36, 3) := by decide +kernel
theorem d_LT_init_107 : decode b_LT_init 107 = .ok (.aload_n 0, 1) := by decide +kernel
theorem d_LT_init_108 : decode b_LT_init 108 = .ok (.iconst 0, 1) := by decide +kernel
theorem d_LT_init_109 : decode b_LT_init 109 = .ok (.putfield 40, 3) := by decide +kernel
theorem d_LT_init_112 : decode b_LT_init 112 = .ok (.aload_n 0, 1) := by decide +kernel
theorem d_LT_init_113 : decode b_LT_init 113 = .ok (.getfield 11, 3) := by decide +kernel
theorem d_LT_init_116 : decode b_LT_init 116 = .ok (.iconst 0, 1) := by decide +kernel
theorem d_LT_init_117 : decode b_LT_init 117 = .ok (.aaload, 1) := by decide +kernel
theorem d_LT_init_118 : decode b_LT_init 118 = .ok (.iconst 0, 1) := by decide +kernel
theorem d_LT_init_119 : decode b_LT_init 119 = .ok (.iconst (-1), 1) := by decide +kernel
theorem d_LT_init_120 : decode b_LT_init 120 = .ok (.sipush 999, 3) := by decide +kernel
theorem d_LT_init_123 : decode b_LT_init 123 = .ok (.iconst (-1), 1) := by decide +kernel
theorem d_LT_init_124 : decode b_LT_init 124 = .ok (.invokevirtual 43, 3) := by decide +kernel
theorem d_LT_init_127 : decode b_LT_init 127 = .ok (.return_, 1) := by decide +kernel
theorem d_ND_init_0 : decode b_ND_init 0 = .ok (.aload_n 0, 1) := by decide +kernel
theorem d_ND_init_1 : decode b_ND_init 1 = .ok (.invokespecial 3, 3) := by decide +kernel
theorem d_ND_init_4 : decode b_ND_init 4 = .ok (.aload_n 0, 1) := by decide +kernel
theorem d_ND_init_5 : decode b_ND_init 5 = .ok (.iconst 5, 1) := by decide +kernel
theorem d_ND_init_6 : decode b_ND_init 6 = .ok (.newarray .int, 2) := by decide +kernel
theorem d_ND_init_8 : decode b_ND_init 8 = .ok (.putfield 9, 3) := by decide +kernel
theorem d_ND_init_11 : decode b_ND_init 11 = .ok (.aload_n 0, 1) := by decide +kernel
theorem d_ND_init_12 : decode b_ND_init 12 = .ok (.iconst 5, 1) := by decide +kernel
theorem d_ND_init_13 : decode b_ND_init 13 = .ok (.newarray .int, 2) := by decide +kernel
theorem d_ND_init_15 : decode b_ND_init 15 = .ok (.putfield 15, 3) := by decide +kernel
theorem d_ND_init_18 : decode b_ND_init 18 = .ok (.aload_n 0, 1) := by decide +kernel
theorem d_ND_init_19 : decode b_ND_init 19 = .ok (.iconst 0, 1) := by decide +kernel
theorem d_ND_init_20 : decode b_ND_init 20 = .ok (.putfield 18, 3) := by decide +kernel
theorem d_ND_init_23 : decode b_ND_init 23 = .ok (.aload_n 0, 1) := by decide +kernel
theorem d_ND_init_24 : decode b_ND_init 24 = .ok (.iconst (-1), 1) := by decide +kernel
theorem d_ND_init_25 : decode b_ND_init 25 = .ok (.putfield 22, 3) := by decide +kernel
theorem d_ND_init_28 : decode b_ND_init 28 = .ok (.aload_n 0, 1) := by decide +kernel
theorem d_ND_init_29 : decode b_ND_init 29 = .ok (.iconst (-1), 1) := by decide +kernel
theorem d_ND_init_30 : decode b_ND_init 30 = .ok (.putfield 25, 3) := by decide +kernel
theorem d_ND_init_33 : decode b_ND_init 33 = .ok (.aload_n 0, 1) := by decide +kernel
theorem d_ND_init_34 : decode b_ND_init 34 = .ok (.iload_n 1, 1) := by decide +kernel
theorem d_ND_init_35 : decode b_ND_init 35 = .ok (.putfield 28, 3) := by decide +kernel
theorem d_ND_init_38 : decode b_ND_init 38 = .ok (.return_, 1) := by decide +kernel
theorem d_TA_init_0 : decode b_TA_init 0 = .ok (.aload_n 0, 1) := by decide +kernel
theorem d_TA_init_1 : decode b_TA_init 1 = .ok (.invokespecial 3, 3) := by decide +kernel
theorem d_TA_init_4 : decode b_TA_init 4 = .ok (.aload_n 0, 1) := by decide +kernel
theorem d_TA_init_5 : decode b_TA_init 5 = .ok (.bipush 25, 2) := by decide +kernel
theorem d_TA_init_7 : decode b_TA_init 7 = .ok (.newarray .int, 2) := by decide +kernel
theorem d_TA_init_9 : decode b_TA_init 9 = .ok (.putfield 9, 3) := by decide +kernel
theorem d_TA_init_12 : decode b_TA_init 12 = .ok (.aload_n 0, 1) := by decide +kernel
theorem d_TA_init_13 : decode b_TA_init 13 = .ok (.iconst 1, 1) := by decide +kernel
theorem d_TA_init_14 : decode b_TA_init 14 = .ok (.putfield 15, 3) := by decide +kernel
theorem d_TA_init_17 : decode b_TA_init 17 = .ok (.aload_n 0, 1) := by decide +kernel
theorem d_TA_init_18 : decode b_TA_init 18 = .ok (.iload_n 1, 1) := by decide +kernel
theorem d_TA_init_19 : decode b_TA_init 19 = .ok (.putfield 19, 3) := by decide +kernel
theorem d_TA_init_22 : decode b_TA_init 22 = .ok (.return_, 1) := by decide +kernel
theorem d_SP_init_0 : decode b_SP_init 0 = .ok (.aload_n 0, 1) := by decide +kernel
theorem d_SP_init_1 : decode b_SP_init 1 = .ok (.invokespecial 3, 3) := by decide +kernel
theorem d_SP_init_4 : decode b_SP_init 4 = .ok (.aload_n 0, 1) := by decide +kernel
theorem d_SP_init_5 : decode b_SP_init 5 = .ok (.bipush 12, 2) := by decide +kernel
theorem d_SP_init_7 : decode b_SP_init 7 = .ok (.newarray .int, 2) := by decide +kernel
theorem d_SP_init_9 : decode b_SP_init 9 = .ok (.putfield 9, 3) := by decide +kernel
theorem d_SP_init_12 : decode b_SP_init 12 = .ok (.return_, 1) := by decide +kernel
theorem d_ND_become_0 : decode b_ND_become 0 = .ok (.aload_n 0, 1) := by decide +kernel
theorem d_ND_become_1 : decode b_ND_become 1 = .ok (.iconst 1, 1) := by decide +kernel
theorem d_ND_become_2 : decode b_ND_become 2 = .ok (.putfield 18, 3) := by decide +kernel
theorem d_ND_become_5 : decode b_ND_become 5 = .ok (.aload_n 0, 1) := by decide +kernel
theorem d_ND_become_6 : decode b_ND_become 6 = .ok (.iload_n 1, 1) := by decide +kernel
theorem d_ND_become_7 : decode b_ND_become 7 = .ok (.putfield 31, 3) := by decide +kernel
theorem d_ND_become_10 : decode b_ND_become 10 = .ok (.aload_n 0, 1) := by decide +kernel
theorem d_ND_become_11 : decode b_ND_become 11 = .ok (.iload_n 2, 1) := by decide +kernel
theorem d_ND_become_12 : decode b_ND_become 12 = .ok (.putfield 34, 3) := by decide +kernel
theorem d_ND_become_15 : decode b_ND_become 15 = .ok (.aload_n 0, 1) := by decide +kernel
theorem d_ND_become_16 : decode b_ND_become 16 = .ok (.iload_n 3, 1) := by decide +kernel
theorem d_ND_become_17 : decode b_ND_become 17 = .ok (.putfield 37, 3) := by decide +kernel
theorem d_ND_become_20 : decode b_ND_become 20 = .ok (.aload_n 0, 1) := by decide +kernel
theorem d_ND_become_21 : decode b_ND_become 21 = .ok (.iload 4, 2) := by decide +kernel
theorem d_ND_become_23 : decode b_ND_become 23 = .ok (.putfield 22, 3) := by decide +kernel
theorem d_ND_become_26 : decode b_ND_become 26 = .ok (.aload_n 0, 1) := by decide +kernel
theorem d_ND_become_27 : decode b_ND_become 27 = .ok (.iconst 0, 1) := by decide +kernel
theorem d_ND_become_28 : decode b_ND_become 28 = .ok (.putfield 40, 3) := by decide +kernel
theorem d_ND_become_31 : decode b_ND_become 31 = .ok (.aload_n 0, 1) := by decide +kernel
theorem d_ND_become_32 : decode b_ND_become 32 = .ok (.iconst (-1), 1) := by decide +kernel
theorem d_ND_become_33 : decode b_ND_become 33 = .ok (.putfield 25, 3) := by decide +kernel
theorem d_ND_become_36 : decode b_ND_become 36 = .ok (.return_, 1) := by decide +kernel
theorem d_LT_root_0 : decode b_LT_root 0 = .ok (.aload_n 0, 1) := by decide +kernel
theorem d_LT_root_1 : decode b_LT_root 1 = .ok (.getfield 40, 3) := by decide +kernel
theorem d_LT_root_4 : decode b_LT_root 4 = .ok (.ireturn, 1) := by decide +kernel
theorem d_LT_queued_0 : decode b_LT_queued 0 = .ok (.aload_n 0, 1) := by decide +kernel
theorem d_LT_queued_1 : decode b_LT_queued 1 = .ok (.getfield 36, 3) := by decide +kernel
theorem d_LT_queued_4 : decode b_LT_queued 4 = .ok (.getfield 161, 3) := by decide +kernel
theorem d_LT_queued_7 : decode b_LT_queued 7 = .ok (.ireturn, 1) := by decide +kernel
theorem d_LT_begin_0 : decode b_LT_begin 0 = .ok (.iload_n 1, 1) := by decide +kernel
theorem d_LT_begin_1 : decode b_LT_begin 1 = .ok (.invokestatic 47, 3) := by decide +kernel
theorem d_LT_begin_4 : decode b_LT_begin 4 = .ok (.ifCond .eq 12, 3) := by decide +kernel
theorem d_LT_begin_7 : decode b_LT_begin 7 = .ok (.iload_n 2, 1) := by decide +kernel
theorem d_LT_begin_8 : decode b_LT_begin 8 = .ok (.ifCond .lt 8, 3) := by decide +kernel
theorem d_LT_begin_11 : decode b_LT_begin 11 = .ok (.iload_n 2, 1) := by decide +kernel
theorem d_LT_begin_12 : decode b_LT_begin 12 = .ok (.iconst 3, 1) := by decide +kernel
theorem d_LT_begin_13 : decode b_LT_begin 13 = .ok (.if_icmp .le 13, 3) := by decide +kernel
theorem d_LT_begin_16 : decode b_LT_begin 16 = .ok (.new 51, 3) := by decide +kernel
theorem d_LT_begin_19 : decode b_LT_begin 19 = .ok (.dup, 1) := by decide +kernel
theorem d_LT_begin_20 : decode b_LT_begin 20 = .ok (.ldc 53, 2) := by decide +kernel
theorem d_LT_begin_22 : decode b_LT_begin 22 = .ok (.invokespecial 55, 3) := by decide +kernel
theorem d_LT_begin_25 : decode b_LT_begin 25 = .ok (.athrow, 1) := by decide +kernel
theorem d_LT_begin_26 : decode b_LT_begin 26 = .ok (.iload_n 2, 1) := by decide +kernel
theorem d_LT_begin_27 : decode b_LT_begin 27 = .ok (.iconst 3, 1) := by decide +kernel
theorem d_LT_begin_28 : decode b_LT_begin 28 = .ok (.if_icmp .eq 24, 3) := by decide +kernel
theorem d_LT_begin_31 : decode b_LT_begin 31 = .ok (.iload_n 3, 1) := by decide +kernel
theorem d_LT_begin_32 : decode b_LT_begin 32 = .ok (.ifCond .lt 10, 3) := by decide +kernel
theorem d_LT_begin_35 : decode b_LT_begin 35 = .ok (.iload_n 3, 1) := by decide +kernel
theorem d_LT_begin_36 : decode b_LT_begin 36 = .ok (.sipush 999, 3) := by decide +kernel
theorem d_LT_begin_39 : decode b_LT_begin 39 = .ok (.if_icmp .le 13, 3) := by decide +kernel
theorem d_LT_begin_42 : decode b_LT_begin 42 = .ok (.new 51, 3) := by decide +kernel
theorem d_LT_begin_45 : decode b_LT_begin 45 = .ok (.dup, 1) := by decide +kernel
theorem d_LT_begin_46 : decode b_LT_begin 46 = .ok (.ldc 58, 2) := by decide +kernel
theorem d_LT_begin_48 : decode b_LT_begin 48 = .ok (.invokespecial 55, 3) := by decide +kernel
theorem d_LT_begin_51 : decode b_LT_begin 51 = .ok (.athrow, 1) := by decide +kernel
theorem d_LT_begin_52 : decode b_LT_begin 52 = .ok (.aload_n 0, 1) := by decide +kernel
theorem d_LT_begin_53 : decode b_LT_begin 53 = .ok (.getfield 28, 3) := by decide +kernel
theorem d_LT_begin_56 : decode b_LT_begin 56 = .ok (.iload_n 1, 1) := by decide +kernel
theorem d_LT_begin_57 : decode b_LT_begin 57 = .ok (.aaload, 1) := by decide +kernel
theorem d_LT_begin_58 : decode b_LT_begin 58 = .ok (.astore 5, 2) := by decide +kernel
theorem d_LT_begin_60 : decode b_LT_begin 60 = .ok (.aload 5, 2) := by decide +kernel
theorem d_LT_begin_62 : decode b_LT_begin 62 = .ok (.getfield 60, 3) := by decide +kernel
theorem d_LT_begin_65 : decode b_LT_begin 65 = .ok (.ifCond .ne 13, 3) := by decide +kernel
theorem d_LT_begin_68 : decode b_LT_begin 68 = .ok (.new 64, 3) := by decide +kernel
theorem d_LT_begin_71 : decode b_LT_begin 71 = .ok (.dup, 1) := by decide +kernel
theorem d_LT_begin_72 : decode b_LT_begin 72 = .ok (.ldc 66, 2) := by decide +kernel
theorem d_LT_begin_74 : decode b_LT_begin 74 = .ok (.invokespecial 68, 3) := by decide +kernel
theorem d_LT_begin_77 : decode b_LT_begin 77 = .ok (.athrow, 1) := by decide +kernel
theorem d_LT_begin_78 : decode b_LT_begin 78 = .ok (.aload 5, 2) := by decide +kernel
theorem d_LT_begin_80 : decode b_LT_begin 80 = .ok (.iconst 0, 1) := by decide +kernel
theorem d_LT_begin_81 : decode b_LT_begin 81 = .ok (.putfield 60, 3) := by decide +kernel
theorem d_LT_begin_84 : decode b_LT_begin 84 = .ok (.aload 5, 2) := by decide +kernel
theorem d_LT_begin_86 : decode b_LT_begin 86 = .ok (.iload_n 2, 1) := by decide +kernel
theorem d_LT_begin_87 : decode b_LT_begin 87 = .ok (.putfield 69, 3) := by decide +kernel
theorem d_LT_begin_90 : decode b_LT_begin 90 = .ok (.aload 5, 2) := by decide +kernel
theorem d_LT_begin_92 : decode b_LT_begin 92 = .ok (.iload_n 3, 1) := by decide +kernel
theorem d_LT_begin_93 : decode b_LT_begin 93 = .ok (.putfield 72, 3) := by decide +kernel
theorem d_LT_begin_96 : decode b_LT_begin 96 = .ok (.aload 5, 2) := by decide +kernel
theorem d_LT_begin_98 : decode b_LT_begin 98 = .ok (.iload 4, 2) := by decide +kernel
theorem d_LT_begin_100 : decode b_LT_begin 100 = .ok (.putfield 75, 3) := by decide +kernel
theorem d_LT_begin_103 : decode b_LT_begin 103 = .ok (.aload 5, 2) := by decide +kernel
theorem d_LT_begin_105 : decode b_LT_begin 105 = .ok (.iconst 0, 1) := by decide +kernel
theorem d_LT_begin_106 : decode b_LT_begin 106 = .ok (.putfield 78, 3) := by decide +kernel
theorem d_LT_begin_109 : decode b_LT_begin 109 = .ok (.aload 5, 2) := by decide +kernel
theorem d_LT_begin_111 : decode b_LT_begin 111 = .ok (.aload_n 0, 1) := by decide +kernel
theorem d_LT_begin_112 : decode b_LT_begin 112 = .ok (.getfield 40, 3) := by decide +kernel
theorem d_LT_begin_115 : decode b_LT_begin 115 = .ok (.invokevirtual 81, 3) := by decide +kernel
theorem d_LT_begin_118 : decode b_LT_begin 118 = .ok (.iload_n 2, 1) := by decide +kernel
theorem d_LT_begin_119 : decode b_LT_begin 119 = .ok (.iconst 3, 1) := by decide +kernel
theorem d_LT_begin_120 : decode b_LT_begin 120 = .ok (.if_icmp .ne 9, 3) := by decide +kernel
theorem d_LT_begin_123 : decode b_LT_begin 123 = .ok (.aload_n 0, 1) := by decide +kernel
theorem d_LT_begin_124 : decode b_LT_begin 124 = .ok (.aload 5, 2) := by decide +kernel
theorem d_LT_begin_126 : decode b_LT_begin 126 = .ok (.invokevirtual 84, 3) := by decide +kernel
theorem d_LT_begin_129 : decode b_LT_begin 129 = .ok (.return_, 1) := by decide +kernel
theorem d_LT_isTask_0 : decode b_LT_isTask 0 = .ok (.iload_n 0, 1) := by decide +kernel
theorem d_LT_isTask_1 : decode b_LT_isTask 1 = .ok (.ifCond .lt 12, 3) := by decide +kernel
theorem d_LT_isTask_4 : decode b_LT_isTask 4 = .ok (.iload_n 0, 1) := by decide +kernel
theorem d_LT_isTask_5 : decode b_LT_isTask 5 = .ok (.iconst 4, 1) := by decide +kernel
theorem d_LT_isTask_6 : decode b_LT_isTask 6 = .ok (.if_icmp .ge 7, 3) := by decide +kernel
theorem d_LT_isTask_9 : decode b_LT_isTask 9 = .ok (.iconst 1, 1) := by decide +kernel
theorem d_LT_isTask_10 : decode b_LT_isTask 10 = .ok (.goto 4, 3) := by decide +kernel
theorem d_LT_isTask_13 : decode b_LT_isTask 13 = .ok (.iconst 0, 1) := by decide +kernel
theorem d_LT_isTask_14 : decode b_LT_isTask 14 = .ok (.ireturn, 1) := by decide +kernel
theorem d_TA_searchAnew_0 : decode b_TA_searchAnew 0 = .ok (.aload_n 0, 1) := by decide +kernel
theorem d_TA_searchAnew_1 : decode b_TA_searchAnew 1 = .ok (.iconst 0, 1) := by decide +kernel
theorem d_TA_searchAnew_2 : decode b_TA_searchAnew 2 = .ok (.putfield 23, 3) := by decide +kernel
theorem d_TA_searchAnew_5 : decode b_TA_searchAnew 5 = .ok (.aload_n 0, 1) := by decide +kernel
theorem d_TA_searchAnew_6 : decode b_TA_searchAnew 6 = .ok (.iload_n 1, 1) := by decide +kernel
theorem d_TA_searchAnew_7 : decode b_TA_searchAnew 7 = .ok (.putfield 26, 3) := by decide +kernel
theorem d_TA_searchAnew_10 : decode b_TA_searchAnew 10 = .ok (.iconst 0, 1) := by decide +kernel
theorem d_TA_searchAnew_11 : decode b_TA_searchAnew 11 = .ok (.istore_n 2, 1) := by decide +kernel
theorem d_TA_searchAnew_12 : decode b_TA_searchAnew 12 = .ok (.iload_n 2, 1) := by decide +kernel
theorem d_TA_searchAnew_13 : decode b_TA_searchAnew 13 = .ok (.aload_n 0, 1) := by decide +kernel
theorem d_TA_searchAnew_14 : decode b_TA_searchAnew 14 = .ok (.getfield 9, 3) := by decide +kernel
theorem d_TA_searchAnew_17 : decode b_TA_searchAnew 17 = .ok (.arraylength, 1) := by decide +kernel
theorem d_TA_searchAnew_18 : decode b_TA_searchAnew 18 = .ok (.if_icmp .ge 16, 3) := by decide +kernel
theorem d_TA_searchAnew_21 : decode b_TA_searchAnew 21 = .ok (.aload_n 0, 1) := by decide +kernel
theorem d_TA_searchAnew_22 : decode b_TA_searchAnew 22 = .ok (.getfield 9, 3) := by decide +kernel
theorem d_TA_searchAnew_25 : decode b_TA_searchAnew 25 = .ok (.iload_n 2, 1) := by decide +kernel
theorem d_TA_searchAnew_26 : decode b_TA_searchAnew 26 = .ok (.iconst (-1), 1) := by decide +kernel
theorem d_TA_searchAnew_27 : decode b_TA_searchAnew 27 = .ok (.iastore, 1) := by decide +kernel
theorem d_TA_searchAnew_28 : decode b_TA_searchAnew 28 = .ok (.iinc 2 1, 3) := by decide +kernel
theorem d_TA_searchAnew_31 : decode b_TA_searchAnew 31 = .ok (.goto (-19), 3) := by decide +kernel
theorem d_TA_searchAnew_34 : decode b_TA_searchAnew 34 = .ok (.return_, 1) := by decide +kernel
theorem d_LT_chooseSmallPage_0 : decode b_LT_chooseSmallPage 0 = .ok (.aload_n 0, 1) := by decide +kernel
theorem d_LT_chooseSmallPage_1 : decode b_LT_chooseSmallPage 1 = .ok (.getfield 36, 3) := by decide +kernel
theorem d_LT_chooseSmallPage_4 : decode b_LT_chooseSmallPage 4 = .ok (.invokevirtual 168, 3) := by decide +kernel
theorem d_LT_chooseSmallPage_7 : decode b_LT_chooseSmallPage 7 = .ok (.istore_n 2, 1) := by decide +kernel
theorem d_LT_chooseSmallPage_8 : decode b_LT_chooseSmallPage 8 = .ok (.iload_n 2, 1) := by decide +kernel
theorem d_LT_chooseSmallPage_9 : decode b_LT_chooseSmallPage 9 = .ok (.iconst (-1), 1) := by decide +kernel
theorem d_LT_chooseSmallPage_10 : decode b_LT_chooseSmallPage 10 = .ok (.if_icmp .eq 11, 3) := by decide +kernel
theorem d_LT_chooseSmallPage_13 : decode b_LT_chooseSmallPage 13 = .ok (.iload_n 2, 1) := by decide +kernel
theorem d_LT_chooseSmallPage_14 : decode b_LT_chooseSmallPage 14 = .ok (.aload_n 0, 1) := by decide +kernel
theorem d_LT_chooseSmallPage_15 : decode b_LT_chooseSmallPage 15 = .ok (.getfield 40, 3) := by decide +kernel
theorem d_LT_chooseSmallPage_18 : decode b_LT_chooseSmallPage 18 = .ok (.if_icmp .ne 14, 3) := by decide +kernel
theorem d_LT_chooseSmallPage_21 : decode b_LT_chooseSmallPage 21 = .ok (.aload_n 1, 1) := by decide +kernel
theorem d_LT_chooseSmallPage_22 : decode b_LT_chooseSmallPage 22 = .ok (.iconst (-1), 1) := by decide +kernel
theorem d_LT_chooseSmallPage_23 : decode b_LT_chooseSmallPage 23 = .ok (.putfield 172, 3) := by decide +kernel
theorem d_LT_chooseSmallPage_26 : decode b_LT_chooseSmallPage 26 = .ok (.aload_n 1, 1) := by decide +kernel
theorem d_LT_chooseSmallPage_27 : decode b_LT_chooseSmallPage 27 = .ok (.iconst 0, 1) := by decide +kernel
theorem d_LT_chooseSmallPage_28 : decode b_LT_chooseSmallPage 28 = .ok (.putfield 72, 3) := by decide +kernel
theorem d_LT_chooseSmallPage_31 : decode b_LT_chooseSmallPage 31 = .ok (.return_, 1) := by decide +kernel
theorem d_LT_chooseSmallPage_32 : decode b_LT_chooseSmallPage 32 = .ok (.aload_n 0, 1) := by decide +kernel
theorem d_LT_chooseSmallPage_33 : decode b_LT_chooseSmallPage 33 = .ok (.iload_n 2, 1) := by decide +kernel
theorem d_LT_chooseSmallPage_34 : decode b_LT_chooseSmallPage 34 = .ok (.invokevirtual 148, 3) := by decide +kernel
theorem d_LT_chooseSmallPage_37 : decode b_LT_chooseSmallPage 37 = .ok (.astore_n 3, 1) := by decide +kernel
theorem d_LT_chooseSmallPage_38 : decode b_LT_chooseSmallPage 38 = .ok (.aload_n 1, 1) := by decide +kernel
theorem d_LT_chooseSmallPage_39 : decode b_LT_chooseSmallPage 39 = .ok (.iload_n 2, 1) := by decide +kernel
theorem d_LT_chooseSmallPage_40 : decode b_LT_chooseSmallPage 40 = .ok (.putfield 172, 3) := by decide +kernel
theorem d_LT_chooseSmallPage_43 : decode b_LT_chooseSmallPage 43 = .ok (.aload_n 1, 1) := by decide +kernel
theorem d_LT_chooseSmallPage_44 : decode b_LT_chooseSmallPage 44 = .ok (.aload_n 3, 1) := by decide +kernel
theorem d_LT_chooseSmallPage_45 : decode b_LT_chooseSmallPage 45 = .ok (.getfield 136, 3) := by decide +kernel
theorem d_LT_chooseSmallPage_48 : decode b_LT_chooseSmallPage 48 = .ok (.putfield 72, 3) := by decide +kernel
theorem d_LT_chooseSmallPage_51 : decode b_LT_chooseSmallPage 51 = .ok (.aload_n 1, 1) := by decide +kernel
theorem d_LT_chooseSmallPage_52 : decode b_LT_chooseSmallPage 52 = .ok (.aload_n 3, 1) := by decide +kernel
theorem d_LT_chooseSmallPage_53 : decode b_LT_chooseSmallPage 53 = .ok (.getfield 132, 3) := by decide +kernel
theorem d_LT_chooseSmallPage_56 : decode b_LT_chooseSmallPage 56 = .ok (.iconst 1, 1) := by decide +kernel
theorem d_LT_chooseSmallPage_57 : decode b_LT_chooseSmallPage 57 = .ok (.iadd, 1) := by decide +kernel
theorem d_LT_chooseSmallPage_58 : decode b_LT_chooseSmallPage 58 = .ok (.putfield 78, 3) := by decide +kernel
theorem d_LT_chooseSmallPage_61 : decode b_LT_chooseSmallPage 61 = .ok (.return_, 1) := by decide +kernel
theorem d_SP_takeFirst_0 : decode b_SP_takeFirst 0 = .ok (.aload_n 0, 1) := by decide +kernel
theorem d_SP_takeFirst_1 : decode b_SP_takeFirst 1 = .ok (.getfield 15, 3) := by decide +kernel
theorem d_SP_takeFirst_4 : decode b_SP_takeFirst 4 = .ok (.ifCond .ne 5, 3) := by decide +kernel
theorem d_SP_takeFirst_7 : decode b_SP_takeFirst 7 = .ok (.iconst (-1), 1) := by decide +kernel
theorem d_SP_takeFirst_8 : decode b_SP_takeFirst 8 = .ok (.ireturn, 1) := by decide +kernel
theorem d_SP_takeFirst_9 : decode b_SP_takeFirst 9 = .ok (.aload_n 0, 1) := by decide +kernel
theorem d_SP_takeFirst_10 : decode b_SP_takeFirst 10 = .ok (.getfield 9, 3) := by decide +kernel
theorem d_SP_takeFirst_13 : decode b_SP_takeFirst 13 = .ok (.iconst 0, 1) := by decide +kernel
theorem d_SP_takeFirst_14 : decode b_SP_takeFirst 14 = .ok (.iaload, 1) := by decide +kernel
theorem d_SP_takeFirst_15 : decode b_SP_takeFirst 15 = .ok (.istore_n 1, 1) := by decide +kernel
theorem d_SP_takeFirst_16 : decode b_SP_takeFirst 16 = .ok (.aload_n 0, 1) := by decide +kernel
theorem d_SP_takeFirst_17 : decode b_SP_takeFirst 17 = .ok (.iload_n 1, 1) := by decide +kernel
theorem d_SP_takeFirst_18 : decode b_SP_takeFirst 18 = .ok (.invokevirtual 23, 3) := by decide +kernel
theorem d_SP_takeFirst_21 : decode b_SP_takeFirst 21 = .ok (.iload_n 1, 1) := by decide +kernel
theorem d_SP_takeFirst_22 : decode b_SP_takeFirst 22 = .ok (.ireturn, 1) := by decide +kernel
theorem d_SP_drop_0 : decode b_SP_drop 0 = .ok (.iconst 0, 1) := by decide +kernel
theorem d_SP_drop_1 : decode b_SP_drop 1 = .ok (.istore_n 2, 1) := by decide +kernel
theorem d_SP_drop_2 : decode b_SP_drop 2 = .ok (.iconst 0, 1) := by decide +kernel
theorem d_SP_drop_3 : decode b_SP_drop 3 = .ok (.istore_n 3, 1) := by decide +kernel
theorem d_SP_drop_4 : decode b_SP_drop 4 = .ok (.iload_n 3, 1) := by decide +kernel
theorem d_SP_drop_5 : decode b_SP_drop 5 = .ok (.aload_n 0, 1) := by decide +kernel
theorem d_SP_drop_6 : decode b_SP_drop 6 = .ok (.getfield 15, 3) := by decide +kernel
theorem d_SP_drop_9 : decode b_SP_drop 9 = .ok (.if_icmp .ge 34, 3) := by decide +kernel
theorem d_SP_drop_12 : decode b_SP_drop 12 = .ok (.aload_n 0, 1) := by decide +kernel
theorem d_SP_drop_13 : decode b_SP_drop 13 = .ok (.getfield 9, 3) := by decide +kernel
theorem d_SP_drop_16 : decode b_SP_drop 16 = .ok (.iload_n 3, 1) := by decide +kernel
theorem d_SP_drop_17 : decode b_SP_drop 17 = .ok (.iaload, 1) := by decide +kernel
theorem d_SP_drop_18 : decode b_SP_drop 18 = .ok (.iload_n 1, 1) := by decide +kernel
theorem d_SP_drop_19 : decode b_SP_drop 19 = .ok (.if_icmp .eq 18, 3) := by decide +kernel
theorem d_SP_drop_22 : decode b_SP_drop 22 = .ok (.aload_n 0, 1) := by decide +kernel
theorem d_SP_drop_23 : decode b_SP_drop 23 = .ok (.getfield 9, 3) := by decide +kernel
theorem d_SP_drop_26 : decode b_SP_drop 26 = .ok (.iload_n 2, 1) := by decide +kernel
theorem d_SP_drop_27 : decode b_SP_drop 27 = .ok (.aload_n 0, 1) := by decide +kernel
theorem d_SP_drop_28 : decode b_SP_drop 28 = .ok (.getfield 9, 3) := by decide +kernel
theorem d_SP_drop_31 : decode b_SP_drop 31 = .ok (.iload_n 3, 1) := by decide +kernel
theorem d_SP_drop_32 : decode b_SP_drop 32 = .ok (.iaload, 1) := by decide +kernel
theorem d_SP_drop_33 : decode b_SP_drop 33 = .ok (.iastore, 1) := by decide +kernel
theorem d_SP_drop_34 : decode b_SP_drop 34 = .ok (.iinc 2 1, 3) := by decide +kernel
theorem d_SP_drop_37 : decode b_SP_drop 37 = .ok (.iinc 3 1, 3) := by decide +kernel
theorem d_SP_drop_40 : decode b_SP_drop 40 = .ok (.goto (-36), 3) := by decide +kernel
theorem d_SP_drop_43 : decode b_SP_drop 43 = .ok (.aload_n 0, 1) := by decide +kernel
theorem d_SP_drop_44 : decode b_SP_drop 44 = .ok (.iload_n 2, 1) := by decide +kernel
theorem d_SP_drop_45 : decode b_SP_drop 45 = .ok (.putfield 15, 3) := by decide +kernel
theorem d_SP_drop_48 : decode b_SP_drop 48 = .ok (.return_, 1) := by decide +kernel
theorem d_LT_nodeAt_0 : decode b_LT_nodeAt 0 = .ok (.iload_n 1, 1) := by decide +kernel
theorem d_LT_nodeAt_1 : decode b_LT_nodeAt 1 = .ok (.invokestatic 127, 3) := by decide +kernel
theorem d_LT_nodeAt_4 : decode b_LT_nodeAt 4 = .ok (.ifCond .eq 12, 3) := by decide +kernel
theorem d_LT_nodeAt_7 : decode b_LT_nodeAt 7 = .ok (.aload_n 0, 1) := by decide +kernel
theorem d_LT_nodeAt_8 : decode b_LT_nodeAt 8 = .ok (.getfield 11, 3) := by decide +kernel
theorem d_LT_nodeAt_11 : decode b_LT_nodeAt 11 = .ok (.iload_n 1, 1) := by decide +kernel
theorem d_LT_nodeAt_12 : decode b_LT_nodeAt 12 = .ok (.aaload, 1) := by decide +kernel
theorem d_LT_nodeAt_13 : decode b_LT_nodeAt 13 = .ok (.goto 7, 3) := by decide +kernel
theorem d_LT_nodeAt_16 : decode b_LT_nodeAt 16 = .ok (.aload_n 0, 1) := by decide +kernel
theorem d_LT_nodeAt_17 : decode b_LT_nodeAt 17 = .ok (.getfield 18, 3) := by decide +kernel
theorem d_LT_nodeAt_20 : decode b_LT_nodeAt 20 = .ok (.areturn, 1) := by decide +kernel
theorem d_LT_isPage_0 : decode b_LT_isPage 0 = .ok (.iload_n 0, 1) := by decide +kernel
theorem d_LT_isPage_1 : decode b_LT_isPage 1 = .ok (.ifCond .lt 13, 3) := by decide +kernel
theorem d_LT_isPage_4 : decode b_LT_isPage 4 = .ok (.iload_n 0, 1) := by decide +kernel
theorem d_LT_isPage_5 : decode b_LT_isPage 5 = .ok (.bipush 24, 2) := by decide +kernel
theorem d_LT_isPage_7 : decode b_LT_isPage 7 = .ok (.if_icmp .ge 7, 3) := by decide +kernel
theorem d_LT_isPage_10 : decode b_LT_isPage 10 = .ok (.iconst 1, 1) := by decide +kernel
theorem d_LT_isPage_11 : decode b_LT_isPage 11 = .ok (.goto 4, 3) := by decide +kernel
theorem d_LT_isPage_14 : decode b_LT_isPage 14 = .ok (.iconst 0, 1) := by decide +kernel
theorem d_LT_isPage_15 : decode b_LT_isPage 15 = .ok (.ireturn, 1) := by decide +kernel
theorem d_LT_step_0 : decode b_LT_step 0 = .ok (.iload_n 1, 1) := by decide +kernel
theorem d_LT_step_1 : decode b_LT_step 1 = .ok (.invokestatic 47, 3) := by decide +kernel
theorem d_LT_step_4 : decode b_LT_step 4 = .ok (.ifCond .ne 13, 3) := by decide +kernel
theorem d_LT_step_7 : decode b_LT_step 7 = .ok (.new 51, 3) := by decide +kernel
theorem d_LT_step_10 : decode b_LT_step 10 = .ok (.dup, 1) := by decide +kernel
theorem d_LT_step_11 : decode b_LT_step 11 = .ok (.ldc 88, 2) := by decide +kernel
theorem d_LT_step_13 : decode b_LT_step 13 = .ok (.invokespecial 55, 3) := by decide +kernel
theorem d_LT_step_16 : decode b_LT_step 16 = .ok (.athrow, 1) := by decide +kernel
theorem d_LT_step_17 : decode b_LT_step 17 = .ok (.aload_n 0, 1) := by decide +kernel
theorem d_LT_step_18 : decode b_LT_step 18 = .ok (.getfield 28, 3) := by decide +kernel
theorem d_LT_step_21 : decode b_LT_step 21 = .ok (.iload_n 1, 1) := by decide +kernel
theorem d_LT_step_22 : decode b_LT_step 22 = .ok (.aaload, 1) := by decide +kernel
theorem d_LT_step_23 : decode b_LT_step 23 = .ok (.astore_n 2, 1) := by decide +kernel
theorem d_LT_step_24 : decode b_LT_step 24 = .ok (.aload_n 2, 1) := by decide +kernel
theorem d_LT_step_25 : decode b_LT_step 25 = .ok (.getfield 60, 3) := by decide +kernel
theorem d_LT_step_28 : decode b_LT_step 28 = .ok (.ifCond .eq 13, 3) := by decide +kernel
theorem d_LT_step_31 : decode b_LT_step 31 = .ok (.new 64, 3) := by decide +kernel
theorem d_LT_step_34 : decode b_LT_step 34 = .ok (.dup, 1) := by decide +kernel
theorem d_LT_step_35 : decode b_LT_step 35 = .ok (.ldc 90, 2) := by decide +kernel
theorem d_LT_step_37 : decode b_LT_step 37 = .ok (.invokespecial 68, 3) := by decide +kernel
theorem d_LT_step_40 : decode b_LT_step 40 = .ok (.athrow, 1) := by decide +kernel
theorem d_LT_step_41 : decode b_LT_step 41 = .ok (.aload_n 0, 1) := by decide +kernel
theorem d_LT_step_42 : decode b_LT_step 42 = .ok (.aload_n 2, 1) := by decide +kernel
theorem d_LT_step_43 : decode b_LT_step 43 = .ok (.invokevirtual 92, 3) := by decide +kernel
theorem d_LT_step_46 : decode b_LT_step 46 = .ok (.istore_n 3, 1) := by decide +kernel
theorem d_LT_step_47 : decode b_LT_step 47 = .ok (.aload_n 2, 1) := by decide +kernel
theorem d_LT_step_48 : decode b_LT_step 48 = .ok (.dup, 1) := by decide +kernel
theorem d_LT_step_49 : decode b_LT_step 49 = .ok (.getfield 96, 3) := by decide +kernel
theorem d_LT_step_52 : decode b_LT_step 52 = .ok (.iconst 1, 1) := by decide +kernel
theorem d_LT_step_53 : decode b_LT_step 53 = .ok (.iadd, 1) := by decide +kernel
theorem d_LT_step_54 : decode b_LT_step 54 = .ok (.putfield 96, 3) := by decide +kernel
theorem d_LT_step_57 : decode b_LT_step 57 = .ok (.iload_n 3, 1) := by decide +kernel
theorem d_LT_step_58 : decode b_LT_step 58 = .ok (.iconst 1, 1) := by decide +kernel
theorem d_LT_step_59 : decode b_LT_step 59 = .ok (.if_icmp .ne 13, 3) := by decide +kernel
theorem d_LT_step_62 : decode b_LT_step 62 = .ok (.aload_n 2, 1) := by decide +kernel
theorem d_LT_step_63 : decode b_LT_step 63 = .ok (.dup, 1) := by decide +kernel
theorem d_LT_step_64 : decode b_LT_step 64 = .ok (.getfield 99, 3) := by decide +kernel
theorem d_LT_step_67 : decode b_LT_step 67 = .ok (.iconst 1, 1) := by decide +kernel
theorem d_LT_step_68 : decode b_LT_step 68 = .ok (.iadd, 1) := by decide +kernel
theorem d_LT_step_69 : decode b_LT_step 69 = .ok (.putfield 99, 3) := by decide +kernel
theorem d_LT_step_72 : decode b_LT_step 72 = .ok (.iload_n 3, 1) := by decide +kernel
theorem d_LT_step_73 : decode b_LT_step 73 = .ok (.ireturn, 1) := by decide +kernel
theorem d_LT_advance_0 : decode b_LT_advance 0 = .ok (.aload_n 1, 1) := by decide +kernel
theorem d_LT_advance_1 : decode b_LT_advance 1 = .ok (.getfield 69, 3) := by decide +kernel
theorem d_LT_advance_4 : decode b_LT_advance 4 = .ok (.iconst 3, 1) := by decide +kernel
theorem d_LT_advance_5 : decode b_LT_advance 5 = .ok (.if_icmp .ne 18, 3) := by decide +kernel
theorem d_LT_advance_8 : decode b_LT_advance 8 = .ok (.aload_n 1, 1) := by decide +kernel
theorem d_LT_advance_9 : decode b_LT_advance 9 = .ok (.getfield 172, 3) := by decide +kernel
theorem d_LT_advance_12 : decode b_LT_advance 12 = .ok (.iconst (-1), 1) := by decide +kernel
theorem d_LT_advance_13 : decode b_LT_advance 13 = .ok (.if_icmp .ne 10, 3) := by decide +kernel
theorem d_LT_advance_16 : decode b_LT_advance 16 = .ok (.aload_n 0, 1) := by decide +kernel
theorem d_LT_advance_17 : decode b_LT_advance 17 = .ok (.aload_n 1, 1) := by decide +kernel
theorem d_LT_advance_18 : decode b_LT_advance 18 = .ok (.iconst 0, 1) := by decide +kernel
theorem d_LT_advance_19 : decode b_LT_advance 19 = .ok (.invokevirtual 175, 3) := by decide +kernel
theorem d_LT_advance_22 : decode b_LT_advance 22 = .ok (.ireturn, 1) := by decide +kernel
theorem d_LT_advance_23 : decode b_LT_advance 23 = .ok (.aload_n 0, 1) := by decide +kernel
theorem d_LT_advance_24 : decode b_LT_advance 24 = .ok (.aload_n 1, 1) := by decide +kernel
theorem d_LT_advance_25 : decode b_LT_advance 25 = .ok (.getfield 118, 3) := by decide +kernel
theorem d_LT_advance_28 : decode b_LT_advance 28 = .ok (.invokevirtual 148, 3) := by decide +kernel
theorem d_LT_advance_31 : decode b_LT_advance 31 = .ok (.astore_n 2, 1) := by decide +kernel
theorem d_LT_advance_32 : decode b_LT_advance 32 = .ok (.aload_n 1, 1) := by decide +kernel
theorem d_LT_advance_33 : decode b_LT_advance 33 = .ok (.getfield 115, 3) := by decide +kernel
theorem d_LT_advance_36 : decode b_LT_advance 36 = .ok (.lookupswitch 42 #[(0, 28), (1, 35)], 28) := by decide +kernel
theorem d_LT_advance_64 : decode b_LT_advance 64 = .ok (.aload_n 0, 1) := by decide +kernel
theorem d_LT_advance_65 : decode b_LT_advance 65 = .ok (.aload_n 1, 1) := by decide +kernel
theorem d_LT_advance_66 : decode b_LT_advance 66 = .ok (.aload_n 2, 1) := by decide +kernel
theorem d_LT_advance_67 : decode b_LT_advance 67 = .ok (.invokevirtual 179, 3) := by decide +kernel
theorem d_LT_advance_70 : decode b_LT_advance 70 = .ok (.ireturn, 1) := by decide +kernel
theorem d_LT_advance_71 : decode b_LT_advance 71 = .ok (.aload_n 0, 1) := by decide +kernel
theorem d_LT_advance_72 : decode b_LT_advance 72 = .ok (.aload_n 1, 1) := by decide +kernel
theorem d_LT_advance_73 : decode b_LT_advance 73 = .ok (.aload_n 2, 1) := by decide +kernel
theorem d_LT_advance_74 : decode b_LT_advance 74 = .ok (.invokevirtual 183, 3) := by decide +kernel
theorem d_LT_advance_77 : decode b_LT_advance 77 = .ok (.ireturn, 1) := by decide +kernel
theorem d_LT_advance_78 : decode b_LT_advance 78 = .ok (.aload_n 0, 1) := by decide +kernel
theorem d_LT_advance_79 : decode b_LT_advance 79 = .ok (.aload_n 1, 1) := by decide +kernel
theorem d_LT_advance_80 : decode b_LT_advance 80 = .ok (.aload_n 2, 1) := by decide +kernel
theorem d_LT_advance_81 : decode b_LT_advance 81 = .ok (.invokevirtual 186, 3) := by decide +kernel
theorem d_LT_advance_84 : decode b_LT_advance 84 = .ok (.ireturn, 1) := by decide +kernel
theorem d_LT_finish_0 : decode b_LT_finish 0 = .ok (.aload_n 1, 1) := by decide +kernel
theorem d_LT_finish_1 : decode b_LT_finish 1 = .ok (.iconst 1, 1) := by decide +kernel
theorem d_LT_finish_2 : decode b_LT_finish 2 = .ok (.putfield 60, 3) := by decide +kernel
theorem d_LT_finish_5 : decode b_LT_finish 5 = .ok (.aload_n 1, 1) := by decide +kernel
theorem d_LT_finish_6 : decode b_LT_finish 6 = .ok (.iconst 1, 1) := by decide +kernel
theorem d_LT_finish_7 : decode b_LT_finish 7 = .ok (.putfield 102, 3) := by decide +kernel
theorem d_LT_finish_10 : decode b_LT_finish 10 = .ok (.aload_n 1, 1) := by decide +kernel
theorem d_LT_finish_11 : decode b_LT_finish 11 = .ok (.iload_n 2, 1) := by decide +kernel
theorem d_LT_finish_12 : decode b_LT_finish 12 = .ok (.putfield 110, 3) := by decide +kernel
theorem d_LT_finish_15 : decode b_LT_finish 15 = .ok (.iconst 0, 1) := by decide +kernel
theorem d_LT_finish_16 : decode b_LT_finish 16 = .ok (.istore_n 3, 1) := by decide +kernel
theorem d_LT_finish_17 : decode b_LT_finish 17 = .ok (.iload_n 3, 1) := by decide +kernel
theorem d_LT_finish_18 : decode b_LT_finish 18 = .ok (.bipush 24, 2) := by decide +kernel
theorem d_LT_finish_20 : decode b_LT_finish 20 = .ok (.if_icmp .ge 22, 3) := by decide +kernel
theorem d_LT_finish_23 : decode b_LT_finish 23 = .ok (.aload_n 0, 1) := by decide +kernel
theorem d_LT_finish_24 : decode b_LT_finish 24 = .ok (.getfield 11, 3) := by decide +kernel
theorem d_LT_finish_27 : decode b_LT_finish 27 = .ok (.iload_n 3, 1) := by decide +kernel
theorem d_LT_finish_28 : decode b_LT_finish 28 = .ok (.aaload, 1) := by decide +kernel
theorem d_LT_finish_29 : decode b_LT_finish 29 = .ok (.aload_n 1, 1) := by decide +kernel
theorem d_LT_finish_30 : decode b_LT_finish 30 = .ok (.getfield 223, 3) := by decide +kernel
theorem d_LT_finish_33 : decode b_LT_finish 33 = .ok (.invokevirtual 236, 3) := by decide +kernel
theorem d_LT_finish_36 : decode b_LT_finish 36 = .ok (.iinc 3 1, 3) := by decide +kernel
theorem d_LT_finish_39 : decode b_LT_finish 39 = .ok (.goto (-22), 3) := by decide +kernel
theorem d_LT_finish_42 : decode b_LT_finish 42 = .ok (.iconst 2, 1) := by decide +kernel
theorem d_LT_finish_43 : decode b_LT_finish 43 = .ok (.ireturn, 1) := by decide +kernel
theorem d_ND_awaitNoMore_0 : decode b_ND_awaitNoMore 0 = .ok (.aload_n 0, 1) := by decide +kernel
theorem d_ND_awaitNoMore_1 : decode b_ND_awaitNoMore 1 = .ok (.getfield 18, 3) := by decide +kernel
theorem d_ND_awaitNoMore_4 : decode b_ND_awaitNoMore 4 = .ok (.iconst 2, 1) := by decide +kernel
theorem d_ND_awaitNoMore_5 : decode b_ND_awaitNoMore 5 = .ok (.if_icmp .ne 17, 3) := by decide +kernel
theorem d_ND_awaitNoMore_8 : decode b_ND_awaitNoMore 8 = .ok (.aload_n 0, 1) := by decide +kernel
theorem d_ND_awaitNoMore_9 : decode b_ND_awaitNoMore 9 = .ok (.aload_n 0, 1) := by decide +kernel
theorem d_ND_awaitNoMore_10 : decode b_ND_awaitNoMore 10 = .ok (.getfield 66, 3) := by decide +kernel
theorem d_ND_awaitNoMore_13 : decode b_ND_awaitNoMore 13 = .ok (.iconst 1, 1) := by decide +kernel
theorem d_ND_awaitNoMore_14 : decode b_ND_awaitNoMore 14 = .ok (.iload_n 1, 1) := by decide +kernel
theorem d_ND_awaitNoMore_15 : decode b_ND_awaitNoMore 15 = .ok (.ishl, 1) := by decide +kernel
theorem d_ND_awaitNoMore_16 : decode b_ND_awaitNoMore 16 = .ok (.iconst (-1), 1) := by decide +kernel
theorem d_ND_awaitNoMore_17 : decode b_ND_awaitNoMore 17 = .ok (.ixor, 1) := by decide +kernel
theorem d_ND_awaitNoMore_18 : decode b_ND_awaitNoMore 18 = .ok (.iand, 1) := by decide +kernel
theorem d_ND_awaitNoMore_19 : decode b_ND_awaitNoMore 19 = .ok (.invokevirtual 69, 3) := by decide +kernel
theorem d_ND_awaitNoMore_22 : decode b_ND_awaitNoMore 22 = .ok (.return_, 1) := by decide +kernel
theorem d_ND_dieUntil_0 : decode b_ND_dieUntil 0 = .ok (.aload_n 0, 1) := by decide +kernel
theorem d_ND_dieUntil_1 : decode b_ND_dieUntil 1 = .ok (.iload_n 1, 1) := by decide +kernel
theorem d_ND_dieUntil_2 : decode b_ND_dieUntil 2 = .ok (.putfield 66, 3) := by decide +kernel
theorem d_ND_dieUntil_5 : decode b_ND_dieUntil 5 = .ok (.aload_n 0, 1) := by decide +kernel
theorem d_ND_dieUntil_6 : decode b_ND_dieUntil 6 = .ok (.aload_n 0, 1) := by decide +kernel
theorem d_ND_dieUntil_7 : decode b_ND_dieUntil 7 = .ok (.getfield 66, 3) := by decide +kernel
theorem d_ND_dieUntil_10 : decode b_ND_dieUntil 10 = .ok (.ifCond .ne 7, 3) := by decide +kernel
theorem d_ND_dieUntil_13 : decode b_ND_dieUntil 13 = .ok (.iconst 0, 1) := by decide +kernel
theorem d_ND_dieUntil_14 : decode b_ND_dieUntil 14 = .ok (.goto 4, 3) := by decide +kernel
theorem d_ND_dieUntil_17 : decode b_ND_dieUntil 17 = .ok (.iconst 2, 1) := by decide +kernel
theorem d_ND_dieUntil_18 : decode b_ND_dieUntil 18 = .ok (.putfield 18, 3) := by decide +kernel
theorem d_ND_dieUntil_21 : decode b_ND_dieUntil 21 = .ok (.return_, 1) := by decide +kernel
theorem d_LT_search_0 : decode b_LT_search 0 = .ok (.aload_n 2, 1) := by decide +kernel
theorem d_LT_search_1 : decode b_LT_search 1 = .ok (.aload_n 1, 1) := by decide +kernel
theorem d_LT_search_2 : decode b_LT_search 2 = .ok (.getfield 72, 3) := by decide +kernel
theorem d_LT_search_5 : decode b_LT_search 5 = .ok (.invokevirtual 189, 3) := by decide +kernel
theorem d_LT_search_8 : decode b_LT_search 8 = .ok (.ifCond .eq 9, 3) := by decide +kernel
theorem d_LT_search_11 : decode b_LT_search 11 = .ok (.aload_n 0, 1) := by decide +kernel
theorem d_LT_search_12 : decode b_LT_search 12 = .ok (.aload_n 1, 1) := by decide +kernel
theorem d_LT_search_13 : decode b_LT_search 13 = .ok (.invokevirtual 192, 3) := by decide +kernel
theorem d_LT_search_16 : decode b_LT_search 16 = .ok (.ireturn, 1) := by decide +kernel
theorem d_LT_search_17 : decode b_LT_search 17 = .ok (.aload_n 2, 1) := by decide +kernel
theorem d_LT_search_18 : decode b_LT_search 18 = .ok (.getfield 136, 3) := by decide +kernel
theorem d_LT_search_21 : decode b_LT_search 21 = .ok (.aload_n 1, 1) := by decide +kernel
theorem d_LT_search_22 : decode b_LT_search 22 = .ok (.getfield 72, 3) := by decide +kernel
theorem d_LT_search_25 : decode b_LT_search 25 = .ok (.if_icmp .ge 10, 3) := by decide +kernel
theorem d_LT_search_28 : decode b_LT_search 28 = .ok (.aload_n 0, 1) := by decide +kernel
theorem d_LT_search_29 : decode b_LT_search 29 = .ok (.aload_n 1, 1) := by decide +kernel
theorem d_LT_search_30 : decode b_LT_search 30 = .ok (.aload_n 2, 1) := by decide +kernel
theorem d_LT_search_31 : decode b_LT_search 31 = .ok (.invokevirtual 195, 3) := by decide +kernel
theorem d_LT_search_34 : decode b_LT_search 34 = .ok (.ireturn, 1) := by decide +kernel
theorem d_LT_search_35 : decode b_LT_search 35 = .ok (.aload_n 2, 1) := by decide +kernel
theorem d_LT_search_36 : decode b_LT_search 36 = .ok (.getfield 132, 3) := by decide +kernel
theorem d_LT_search_39 : decode b_LT_search 39 = .ok (.aload_n 1, 1) := by decide +kernel
theorem d_LT_search_40 : decode b_LT_search 40 = .ok (.getfield 78, 3) := by decide +kernel
theorem d_LT_search_43 : decode b_LT_search 43 = .ok (.if_icmp .le 29, 3) := by decide +kernel
theorem d_LT_search_46 : decode b_LT_search 46 = .ok (.aload_n 1, 1) := by decide +kernel
theorem d_LT_search_47 : decode b_LT_search 47 = .ok (.aload_n 2, 1) := by decide +kernel
theorem d_LT_search_48 : decode b_LT_search 48 = .ok (.getfield 132, 3) := by decide +kernel
theorem d_LT_search_51 : decode b_LT_search 51 = .ok (.aload_n 2, 1) := by decide +kernel
theorem d_LT_search_52 : decode b_LT_search 52 = .ok (.getfield 198, 3) := by decide +kernel
theorem d_LT_search_55 : decode b_LT_search 55 = .ok (.invokevirtual 201, 3) := by decide +kernel
theorem d_LT_search_58 : decode b_LT_search 58 = .ok (.aload_n 1, 1) := by decide +kernel
theorem d_LT_search_59 : decode b_LT_search 59 = .ok (.aload_n 2, 1) := by decide +kernel
theorem d_LT_search_60 : decode b_LT_search 60 = .ok (.aload_n 1, 1) := by decide +kernel
theorem d_LT_search_61 : decode b_LT_search 61 = .ok (.getfield 72, 3) := by decide +kernel
theorem d_LT_search_64 : decode b_LT_search 64 = .ok (.invokevirtual 205, 3) := by decide +kernel
theorem d_LT_search_67 : decode b_LT_search 67 = .ok (.putfield 118, 3) := by decide +kernel
theorem d_LT_search_70 : decode b_LT_search 70 = .ok (.iconst 0, 1) := by decide +kernel
theorem d_LT_search_71 : decode b_LT_search 71 = .ok (.ireturn, 1) := by decide +kernel
theorem d_LT_search_72 : decode b_LT_search 72 = .ok (.aload_n 2, 1) := by decide +kernel
theorem d_LT_search_73 : decode b_LT_search 73 = .ok (.getfield 132, 3) := by decide +kernel
theorem d_LT_search_76 : decode b_LT_search 76 = .ok (.aload_n 1, 1) := by decide +kernel
theorem d_LT_search_77 : decode b_LT_search 77 = .ok (.getfield 78, 3) := by decide +kernel
theorem d_LT_search_80 : decode b_LT_search 80 = .ok (.if_icmp .ge 9, 3) := by decide +kernel
theorem d_LT_search_83 : decode b_LT_search 83 = .ok (.aload_n 0, 1) := by decide +kernel
theorem d_LT_search_84 : decode b_LT_search 84 = .ok (.aload_n 1, 1) := by decide +kernel
theorem d_LT_search_85 : decode b_LT_search 85 = .ok (.invokevirtual 209, 3) := by decide +kernel
theorem d_LT_search_88 : decode b_LT_search 88 = .ok (.ireturn, 1) := by decide +kernel
theorem d_LT_search_89 : decode b_LT_search 89 = .ok (.aload_n 1, 1) := by decide +kernel
theorem d_LT_search_90 : decode b_LT_search 90 = .ok (.getfield 69, 3) := by decide +kernel
theorem d_LT_search_93 : decode b_LT_search 93 = .ok (.ifCond .ne 17, 3) := by decide +kernel
theorem d_LT_search_96 : decode b_LT_search 96 = .ok (.aload_n 0, 1) := by decide +kernel
theorem d_LT_search_97 : decode b_LT_search 97 = .ok (.aload_n 1, 1) := by decide +kernel
theorem d_LT_search_98 : decode b_LT_search 98 = .ok (.aload_n 2, 1) := by decide +kernel
theorem d_LT_search_99 : decode b_LT_search 99 = .ok (.aload_n 1, 1) := by decide +kernel
theorem d_LT_search_100 : decode b_LT_search 100 = .ok (.getfield 72, 3) := by decide +kernel
theorem d_LT_search_103 : decode b_LT_search 103 = .ok (.invokevirtual 212, 3) := by decide +kernel
theorem d_LT_search_106 : decode b_LT_search 106 = .ok (.invokevirtual 175, 3) := by decide +kernel
theorem d_LT_search_109 : decode b_LT_search 109 = .ok (.ireturn, 1) := by decide +kernel
theorem d_LT_search_110 : decode b_LT_search 110 = .ok (.aload_n 1, 1) := by decide +kernel
theorem d_LT_search_111 : decode b_LT_search 111 = .ok (.iconst 1, 1) := by decide +kernel
theorem d_LT_search_112 : decode b_LT_search 112 = .ok (.putfield 115, 3) := by decide +kernel
theorem d_LT_search_115 : decode b_LT_search 115 = .ok (.iconst 0, 1) := by decide +kernel
theorem d_LT_search_116 : decode b_LT_search 116 = .ok (.ireturn, 1) := by decide +kernel
theorem d_ND_isWrongFor_0 : decode b_ND_isWrongFor 0 = .ok (.aload_n 0, 1) := by decide +kernel
theorem d_ND_isWrongFor_1 : decode b_ND_isWrongFor 1 = .ok (.getfield 18, 3) := by decide +kernel
theorem d_ND_isWrongFor_4 : decode b_ND_isWrongFor 4 = .ok (.iconst 1, 1) := by decide +kernel
theorem d_ND_isWrongFor_5 : decode b_ND_isWrongFor 5 = .ok (.if_icmp .ne 11, 3) := by decide +kernel
theorem d_ND_isWrongFor_8 : decode b_ND_isWrongFor 8 = .ok (.aload_n 0, 1) := by decide +kernel
theorem d_ND_isWrongFor_9 : decode b_ND_isWrongFor 9 = .ok (.getfield 34, 3) := by decide +kernel
theorem d_ND_isWrongFor_12 : decode b_ND_isWrongFor 12 = .ok (.iload_n 1, 1) := by decide +kernel
theorem d_ND_isWrongFor_13 : decode b_ND_isWrongFor 13 = .ok (.if_icmp .lt 7, 3) := by decide +kernel
theorem d_ND_isWrongFor_16 : decode b_ND_isWrongFor 16 = .ok (.iconst 1, 1) := by decide +kernel
theorem d_ND_isWrongFor_17 : decode b_ND_isWrongFor 17 = .ok (.goto 4, 3) := by decide +kernel
theorem d_ND_isWrongFor_20 : decode b_ND_isWrongFor 20 = .ok (.iconst 0, 1) := by decide +kernel
theorem d_ND_isWrongFor_21 : decode b_ND_isWrongFor 21 = .ok (.ireturn, 1) := by decide +kernel
theorem d_LT_restart_0 : decode b_LT_restart 0 = .ok (.aload_n 1, 1) := by decide +kernel
theorem d_LT_restart_1 : decode b_LT_restart 1 = .ok (.dup, 1) := by decide +kernel
theorem d_LT_restart_2 : decode b_LT_restart 2 = .ok (.getfield 124, 3) := by decide +kernel
theorem d_LT_restart_5 : decode b_LT_restart 5 = .ok (.iconst 1, 1) := by decide +kernel
theorem d_LT_restart_6 : decode b_LT_restart 6 = .ok (.iadd, 1) := by decide +kernel
theorem d_LT_restart_7 : decode b_LT_restart 7 = .ok (.putfield 124, 3) := by decide +kernel
theorem d_LT_restart_10 : decode b_LT_restart 10 = .ok (.aload_n 1, 1) := by decide +kernel
theorem d_LT_restart_11 : decode b_LT_restart 11 = .ok (.aload_n 0, 1) := by decide +kernel
theorem d_LT_restart_12 : decode b_LT_restart 12 = .ok (.getfield 40, 3) := by decide +kernel
theorem d_LT_restart_15 : decode b_LT_restart 15 = .ok (.invokevirtual 81, 3) := by decide +kernel
theorem d_LT_restart_18 : decode b_LT_restart 18 = .ok (.iconst 0, 1) := by decide +kernel
theorem d_LT_restart_19 : decode b_LT_restart 19 = .ok (.ireturn, 1) := by decide +kernel
theorem d_LT_goRight_0 : decode b_LT_goRight 0 = .ok (.aload_n 1, 1) := by decide +kernel
theorem d_LT_goRight_1 : decode b_LT_goRight 1 = .ok (.dup, 1) := by decide +kernel
theorem d_LT_goRight_2 : decode b_LT_goRight 2 = .ok (.getfield 121, 3) := by decide +kernel
theorem d_LT_goRight_5 : decode b_LT_goRight 5 = .ok (.iconst 1, 1) := by decide +kernel
theorem d_LT_goRight_6 : decode b_LT_goRight 6 = .ok (.iadd, 1) := by decide +kernel
theorem d_LT_goRight_7 : decode b_LT_goRight 7 = .ok (.putfield 121, 3) := by decide +kernel
theorem d_LT_goRight_10 : decode b_LT_goRight 10 = .ok (.aload_n 1, 1) := by decide +kernel
theorem d_LT_goRight_11 : decode b_LT_goRight 11 = .ok (.aload_n 2, 1) := by decide +kernel
theorem d_LT_goRight_12 : decode b_LT_goRight 12 = .ok (.getfield 139, 3) := by decide +kernel
theorem d_LT_goRight_15 : decode b_LT_goRight 15 = .ok (.putfield 118, 3) := by decide +kernel
theorem d_LT_goRight_18 : decode b_LT_goRight 18 = .ok (.iconst 0, 1) := by decide +kernel
theorem d_LT_goRight_19 : decode b_LT_goRight 19 = .ok (.ireturn, 1) := by decide +kernel
theorem d_TA_note_0 : decode b_TA_note 0 = .ok (.iload_n 1, 1) := by decide +kernel
theorem d_TA_note_1 : decode b_TA_note 1 = .ok (.ifCond .lt 19, 3) := by decide +kernel
theorem d_TA_note_4 : decode b_TA_note 4 = .ok (.iload_n 1, 1) := by decide +kernel
theorem d_TA_note_5 : decode b_TA_note 5 = .ok (.aload_n 0, 1) := by decide +kernel
theorem d_TA_note_6 : decode b_TA_note 6 = .ok (.getfield 9, 3) := by decide +kernel
theorem d_TA_note_9 : decode b_TA_note 9 = .ok (.arraylength, 1) := by decide +kernel
theorem d_TA_note_10 : decode b_TA_note 10 = .ok (.if_icmp .ge 10, 3) := by decide +kernel
theorem d_TA_note_13 : decode b_TA_note 13 = .ok (.aload_n 0, 1) := by decide +kernel
theorem d_TA_note_14 : decode b_TA_note 14 = .ok (.getfield 9, 3) := by decide +kernel
theorem d_TA_note_17 : decode b_TA_note 17 = .ok (.iload_n 1, 1) := by decide +kernel
theorem d_TA_note_18 : decode b_TA_note 18 = .ok (.iload_n 2, 1) := by decide +kernel
theorem d_TA_note_19 : decode b_TA_note 19 = .ok (.iastore, 1) := by decide +kernel
theorem d_TA_note_20 : decode b_TA_note 20 = .ok (.return_, 1) := by decide +kernel
theorem d_ND_childFor_0 : decode b_ND_childFor 0 = .ok (.aload_n 0, 1) := by decide +kernel
theorem d_ND_childFor_1 : decode b_ND_childFor 1 = .ok (.iload_n 1, 1) := by decide +kernel
theorem d_ND_childFor_2 : decode b_ND_childFor 2 = .ok (.invokevirtual 43, 3) := by decide +kernel
theorem d_ND_childFor_5 : decode b_ND_childFor 5 = .ok (.istore_n 2, 1) := by decide +kernel
theorem d_ND_childFor_6 : decode b_ND_childFor 6 = .ok (.iload_n 2, 1) := by decide +kernel
theorem d_ND_childFor_7 : decode b_ND_childFor 7 = .ok (.aload_n 0, 1) := by decide +kernel
theorem d_ND_childFor_8 : decode b_ND_childFor 8 = .ok (.getfield 40, 3) := by decide +kernel
theorem d_ND_childFor_11 : decode b_ND_childFor 11 = .ok (.if_icmp .ge 12, 3) := by decide +kernel
theorem d_ND_childFor_14 : decode b_ND_childFor 14 = .ok (.aload_n 0, 1) := by decide +kernel
theorem d_ND_childFor_15 : decode b_ND_childFor 15 = .ok (.getfield 15, 3) := by decide +kernel
theorem d_ND_childFor_18 : decode b_ND_childFor 18 = .ok (.iload_n 2, 1) := by decide +kernel
theorem d_ND_childFor_19 : decode b_ND_childFor 19 = .ok (.iaload, 1) := by decide +kernel
theorem d_ND_childFor_20 : decode b_ND_childFor 20 = .ok (.goto 4, 3) := by decide +kernel
theorem d_ND_childFor_23 : decode b_ND_childFor 23 = .ok (.iconst (-1), 1) := by decide +kernel
theorem d_ND_childFor_24 : decode b_ND_childFor 24 = .ok (.ireturn, 1) := by decide +kernel
theorem d_ND_firstNotBelow_0 : decode b_ND_firstNotBelow 0 = .ok (.iconst 0, 1) := by decide +kernel
theorem d_ND_firstNotBelow_1 : decode b_ND_firstNotBelow 1 = .ok (.istore_n 2, 1) := by decide +kernel
theorem d_ND_firstNotBelow_2 : decode b_ND_firstNotBelow 2 = .ok (.iload_n 2, 1) := by decide +kernel
theorem d_ND_firstNotBelow_3 : decode b_ND_firstNotBelow 3 = .ok (.aload_n 0, 1) := by decide +kernel
theorem d_ND_firstNotBelow_4 : decode b_ND_firstNotBelow 4 = .ok (.getfield 40, 3) := by decide +kernel
theorem d_ND_firstNotBelow_7 : decode b_ND_firstNotBelow 7 = .ok (.if_icmp .ge 19, 3) := by decide +kernel
theorem d_ND_firstNotBelow_10 : decode b_ND_firstNotBelow 10 = .ok (.aload_n 0, 1) := by decide +kernel
theorem d_ND_firstNotBelow_11 : decode b_ND_firstNotBelow 11 = .ok (.getfield 9, 3) := by decide +kernel
theorem d_ND_firstNotBelow_14 : decode b_ND_firstNotBelow 14 = .ok (.iload_n 2, 1) := by decide +kernel
theorem d_ND_firstNotBelow_15 : decode b_ND_firstNotBelow 15 = .ok (.iaload, 1) := by decide +kernel
theorem d_ND_firstNotBelow_16 : decode b_ND_firstNotBelow 16 = .ok (.iload_n 1, 1) := by decide +kernel
theorem d_ND_firstNotBelow_17 : decode b_ND_firstNotBelow 17 = .ok (.if_icmp .ge 9, 3) := by decide +kernel
theorem d_ND_firstNotBelow_20 : decode b_ND_firstNotBelow 20 = .ok (.iinc 2 1, 3) := by decide +kernel
theorem d_ND_firstNotBelow_23 : decode b_ND_firstNotBelow 23 = .ok (.goto (-21), 3) := by decide +kernel
theorem d_ND_firstNotBelow_26 : decode b_ND_firstNotBelow 26 = .ok (.iload_n 2, 1) := by decide +kernel
theorem d_ND_firstNotBelow_27 : decode b_ND_firstNotBelow 27 = .ok (.ireturn, 1) := by decide +kernel
theorem d_LT_searchBelowWanted_0 : decode b_LT_searchBelowWanted 0 = .ok (.aload_n 1, 1) := by decide +kernel
theorem d_LT_searchBelowWanted_1 : decode b_LT_searchBelowWanted 1 = .ok (.getfield 69, 3) := by decide +kernel
theorem d_LT_searchBelowWanted_4 : decode b_LT_searchBelowWanted 4 = .ok (.iconst 3, 1) := by decide +kernel
theorem d_LT_searchBelowWanted_5 : decode b_LT_searchBelowWanted 5 = .ok (.if_icmp .ne 10, 3) := by decide +kernel
theorem d_LT_searchBelowWanted_8 : decode b_LT_searchBelowWanted 8 = .ok (.aload_n 0, 1) := by decide +kernel
theorem d_LT_searchBelowWanted_9 : decode b_LT_searchBelowWanted 9 = .ok (.aload_n 1, 1) := by decide +kernel
theorem d_LT_searchBelowWanted_10 : decode b_LT_searchBelowWanted 10 = .ok (.iconst 0, 1) := by decide +kernel
theorem d_LT_searchBelowWanted_11 : decode b_LT_searchBelowWanted 11 = .ok (.invokevirtual 175, 3) := by decide +kernel
theorem d_LT_searchBelowWanted_14 : decode b_LT_searchBelowWanted 14 = .ok (.ireturn, 1) := by decide +kernel
theorem d_LT_searchBelowWanted_15 : decode b_LT_searchBelowWanted 15 = .ok (.aload_n 0, 1) := by decide +kernel
theorem d_LT_searchBelowWanted_16 : decode b_LT_searchBelowWanted 16 = .ok (.aload_n 0, 1) := by decide +kernel
theorem d_LT_searchBelowWanted_17 : decode b_LT_searchBelowWanted 17 = .ok (.getfield 40, 3) := by decide +kernel
theorem d_LT_searchBelowWanted_20 : decode b_LT_searchBelowWanted 20 = .ok (.invokevirtual 148, 3) := by decide +kernel
theorem d_LT_searchBelowWanted_23 : decode b_LT_searchBelowWanted 23 = .ok (.astore_n 2, 1) := by decide +kernel
theorem d_LT_searchBelowWanted_24 : decode b_LT_searchBelowWanted 24 = .ok (.aload_n 2, 1) := by decide +kernel
theorem d_LT_searchBelowWanted_25 : decode b_LT_searchBelowWanted 25 = .ok (.getfield 132, 3) := by decide +kernel
theorem d_LT_searchBelowWanted_28 : decode b_LT_searchBelowWanted 28 = .ok (.aload_n 1, 1) := by decide +kernel
theorem d_LT_searchBelowWanted_29 : decode b_LT_searchBelowWanted 29 = .ok (.getfield 78, 3) := by decide +kernel
theorem d_LT_searchBelowWanted_32 : decode b_LT_searchBelowWanted 32 = .ok (.if_icmp .lt 9, 3) := by decide +kernel
theorem d_LT_searchBelowWanted_35 : decode b_LT_searchBelowWanted 35 = .ok (.aload_n 0, 1) := by decide +kernel
theorem d_LT_searchBelowWanted_36 : decode b_LT_searchBelowWanted 36 = .ok (.aload_n 1, 1) := by decide +kernel
theorem d_LT_searchBelowWanted_37 : decode b_LT_searchBelowWanted 37 = .ok (.invokevirtual 192, 3) := by decide +kernel
theorem d_LT_searchBelowWanted_40 : decode b_LT_searchBelowWanted 40 = .ok (.ireturn, 1) := by decide +kernel
theorem d_LT_searchBelowWanted_41 : decode b_LT_searchBelowWanted 41 = .ok (.aload_n 0, 1) := by decide +kernel
theorem d_LT_searchBelowWanted_42 : decode b_LT_searchBelowWanted 42 = .ok (.invokevirtual 215, 3) := by decide +kernel
theorem d_LT_searchBelowWanted_45 : decode b_LT_searchBelowWanted 45 = .ok (.astore_n 3, 1) := by decide +kernel
theorem d_LT_searchBelowWanted_46 : decode b_LT_searchBelowWanted 46 = .ok (.aload_n 3, 1) := by decide +kernel
theorem d_LT_searchBelowWanted_47 : decode b_LT_searchBelowWanted 47 = .ok (.ifnonnull 10, 3) := by decide +kernel
theorem d_LT_searchBelowWanted_50 : decode b_LT_searchBelowWanted 50 = .ok (.aload_n 0, 1) := by decide +kernel
theorem d_LT_searchBelowWanted_51 : decode b_LT_searchBelowWanted 51 = .ok (.aload_n 1, 1) := by decide +kernel
theorem d_LT_searchBelowWanted_52 : decode b_LT_searchBelowWanted 52 = .ok (.iconst (-1), 1) := by decide +kernel
theorem d_LT_searchBelowWanted_53 : decode b_LT_searchBelowWanted 53 = .ok (.invokevirtual 175, 3) := by decide +kernel
theorem d_LT_searchBelowWanted_56 : decode b_LT_searchBelowWanted 56 = .ok (.ireturn, 1) := by decide +kernel
theorem d_LT_searchBelowWanted_57 : decode b_LT_searchBelowWanted 57 = .ok (.aload_n 3, 1) := by decide +kernel
theorem d_LT_searchBelowWanted_58 : decode b_LT_searchBelowWanted 58 = .ok (.aload_n 2, 1) := by decide +kernel
theorem d_LT_searchBelowWanted_59 : decode b_LT_searchBelowWanted 59 = .ok (.getfield 132, 3) := by decide +kernel
theorem d_LT_searchBelowWanted_62 : decode b_LT_searchBelowWanted 62 = .ok (.iconst 1, 1) := by decide +kernel
theorem d_LT_searchBelowWanted_63 : decode b_LT_searchBelowWanted 63 = .ok (.iadd, 1) := by decide +kernel
theorem d_LT_searchBelowWanted_64 : decode b_LT_searchBelowWanted 64 = .ok (.iconst (-1), 1) := by decide +kernel
theorem d_LT_searchBelowWanted_65 : decode b_LT_searchBelowWanted 65 = .ok (.sipush 999, 3) := by decide +kernel
theorem d_LT_searchBelowWanted_68 : decode b_LT_searchBelowWanted 68 = .ok (.iconst (-1), 1) := by decide +kernel
theorem d_LT_searchBelowWanted_69 : decode b_LT_searchBelowWanted 69 = .ok (.invokevirtual 43, 3) := by decide +kernel
theorem d_LT_searchBelowWanted_72 : decode b_LT_searchBelowWanted 72 = .ok (.aload_n 3, 1) := by decide +kernel
theorem d_LT_searchBelowWanted_73 : decode b_LT_searchBelowWanted 73 = .ok (.iconst 0, 1) := by decide +kernel
theorem d_LT_searchBelowWanted_74 : decode b_LT_searchBelowWanted 74 = .ok (.sipush 999, 3) := by decide +kernel
theorem d_LT_searchBelowWanted_77 : decode b_LT_searchBelowWanted 77 = .ok (.aload_n 0, 1) := by decide +kernel
theorem d_LT_searchBelowWanted_78 : decode b_LT_searchBelowWanted 78 = .ok (.getfield 40, 3) := by decide +kernel
theorem d_LT_searchBelowWanted_81 : decode b_LT_searchBelowWanted 81 = .ok (.invokevirtual 219, 3) := by decide +kernel
theorem d_LT_searchBelowWanted_84 : decode b_LT_searchBelowWanted 84 = .ok (.aload_n 0, 1) := by decide +kernel
theorem d_LT_searchBelowWanted_85 : decode b_LT_searchBelowWanted 85 = .ok (.aload_n 3, 1) := by decide +kernel
theorem d_LT_searchBelowWanted_86 : decode b_LT_searchBelowWanted 86 = .ok (.getfield 198, 3) := by decide +kernel
theorem d_LT_searchBelowWanted_89 : decode b_LT_searchBelowWanted 89 = .ok (.putfield 40, 3) := by decide +kernel
theorem d_LT_searchBelowWanted_92 : decode b_LT_searchBelowWanted 92 = .ok (.aload_n 1, 1) := by decide +kernel
theorem d_LT_searchBelowWanted_93 : decode b_LT_searchBelowWanted 93 = .ok (.aload_n 0, 1) := by decide +kernel
theorem d_LT_searchBelowWanted_94 : decode b_LT_searchBelowWanted 94 = .ok (.getfield 40, 3) := by decide +kernel
theorem d_LT_searchBelowWanted_97 : decode b_LT_searchBelowWanted 97 = .ok (.putfield 118, 3) := by decide +kernel
theorem d_LT_searchBelowWanted_100 : decode b_LT_searchBelowWanted 100 = .ok (.iconst 0, 1) := by decide +kernel
theorem d_LT_searchBelowWanted_101 : decode b_LT_searchBelowWanted 101 = .ok (.ireturn, 1) := by decide +kernel
theorem d_LT_leastFreeNode_0 : decode b_LT_leastFreeNode 0 = .ok (.iconst 0, 1) := by decide +kernel
theorem d_LT_leastFreeNode_1 : decode b_LT_leastFreeNode 1 = .ok (.istore_n 1, 1) := by decide +kernel
theorem d_LT_leastFreeNode_2 : decode b_LT_leastFreeNode 2 = .ok (.iload_n 1, 1) := by decide +kernel
theorem d_LT_leastFreeNode_3 : decode b_LT_leastFreeNode 3 = .ok (.bipush 24, 2) := by decide +kernel
theorem d_LT_leastFreeNode_5 : decode b_LT_leastFreeNode 5 = .ok (.if_icmp .ge 28, 3) := by decide +kernel
theorem d_LT_leastFreeNode_8 : decode b_LT_leastFreeNode 8 = .ok (.aload_n 0, 1) := by decide +kernel
theorem d_LT_leastFreeNode_9 : decode b_LT_leastFreeNode 9 = .ok (.getfield 11, 3) := by decide +kernel
theorem d_LT_leastFreeNode_12 : decode b_LT_leastFreeNode 12 = .ok (.iload_n 1, 1) := by decide +kernel
theorem d_LT_leastFreeNode_13 : decode b_LT_leastFreeNode 13 = .ok (.aaload, 1) := by decide +kernel
theorem d_LT_leastFreeNode_14 : decode b_LT_leastFreeNode 14 = .ok (.getfield 22, 3) := by decide +kernel
theorem d_LT_leastFreeNode_17 : decode b_LT_leastFreeNode 17 = .ok (.ifCond .ne 10, 3) := by decide +kernel
theorem d_LT_leastFreeNode_20 : decode b_LT_leastFreeNode 20 = .ok (.aload_n 0, 1) := by decide +kernel
theorem d_LT_leastFreeNode_21 : decode b_LT_leastFreeNode 21 = .ok (.getfield 11, 3) := by decide +kernel
theorem d_LT_leastFreeNode_24 : decode b_LT_leastFreeNode 24 = .ok (.iload_n 1, 1) := by decide +kernel
theorem d_LT_leastFreeNode_25 : decode b_LT_leastFreeNode 25 = .ok (.aaload, 1) := by decide +kernel
theorem d_LT_leastFreeNode_26 : decode b_LT_leastFreeNode 26 = .ok (.areturn, 1) := by decide +kernel
theorem d_LT_leastFreeNode_27 : decode b_LT_leastFreeNode 27 = .ok (.iinc 1 1, 3) := by decide +kernel
theorem d_LT_leastFreeNode_30 : decode b_LT_leastFreeNode 30 = .ok (.goto (-28), 3) := by decide +kernel
theorem d_LT_leastFreeNode_33 : decode b_LT_leastFreeNode 33 = .ok (.aconst_null, 1) := by decide +kernel
theorem d_LT_leastFreeNode_34 : decode b_LT_leastFreeNode 34 = .ok (.areturn, 1) := by decide +kernel
theorem d_ND_insert_0 : decode b_ND_insert 0 = .ok (.iload_n 1, 1) := by decide +kernel
theorem d_ND_insert_1 : decode b_ND_insert 1 = .ok (.ifCond .lt 23, 3) := by decide +kernel
theorem d_ND_insert_4 : decode b_ND_insert 4 = .ok (.iload_n 1, 1) := by decide +kernel
theorem d_ND_insert_5 : decode b_ND_insert 5 = .ok (.aload_n 0, 1) := by decide +kernel
theorem d_ND_insert_6 : decode b_ND_insert 6 = .ok (.getfield 40, 3) := by decide +kernel
theorem d_ND_insert_9 : decode b_ND_insert 9 = .ok (.if_icmp .gt 15, 3) := by decide +kernel
theorem d_ND_insert_12 : decode b_ND_insert 12 = .ok (.aload_n 0, 1) := by decide +kernel
theorem d_ND_insert_13 : decode b_ND_insert 13 = .ok (.getfield 40, 3) := by decide +kernel
theorem d_ND_insert_16 : decode b_ND_insert 16 = .ok (.aload_n 0, 1) := by decide +kernel
theorem d_ND_insert_17 : decode b_ND_insert 17 = .ok (.getfield 9, 3) := by decide +kernel
theorem d_ND_insert_20 : decode b_ND_insert 20 = .ok (.arraylength, 1) := by decide +kernel
theorem d_ND_insert_21 : decode b_ND_insert 21 = .ok (.if_icmp .lt 4, 3) := by decide +kernel
theorem d_ND_insert_24 : decode b_ND_insert 24 = .ok (.return_, 1) := by decide +kernel
theorem d_ND_insert_25 : decode b_ND_insert 25 = .ok (.aload_n 0, 1) := by decide +kernel
theorem d_ND_insert_26 : decode b_ND_insert 26 = .ok (.getfield 40, 3) := by decide +kernel
theorem d_ND_insert_29 : decode b_ND_insert 29 = .ok (.istore 4, 2) := by decide +kernel
theorem d_ND_insert_31 : decode b_ND_insert 31 = .ok (.iload 4, 2) := by decide +kernel
theorem d_ND_insert_33 : decode b_ND_insert 33 = .ok (.iload_n 1, 1) := by decide +kernel
theorem d_ND_insert_34 : decode b_ND_insert 34 = .ok (.if_icmp .le 41, 3) := by decide +kernel
theorem d_ND_insert_37 : decode b_ND_insert 37 = .ok (.aload_n 0, 1) := by decide +kernel
theorem d_ND_insert_38 : decode b_ND_insert 38 = .ok (.getfield 9, 3) := by decide +kernel
theorem d_ND_insert_41 : decode b_ND_insert 41 = .ok (.iload 4, 2) := by decide +kernel
theorem d_ND_insert_43 : decode b_ND_insert 43 = .ok (.aload_n 0, 1) := by decide +kernel
theorem d_ND_insert_44 : decode b_ND_insert 44 = .ok (.getfield 9, 3) := by decide +kernel
theorem d_ND_insert_47 : decode b_ND_insert 47 = .ok (.iload 4, 2) := by decide +kernel
theorem d_ND_insert_49 : decode b_ND_insert 49 = .ok (.iconst 1, 1) := by decide +kernel
theorem d_ND_insert_50 : decode b_ND_insert 50 = .ok (.isub, 1) := by decide +kernel
theorem d_ND_insert_51 : decode b_ND_insert 51 = .ok (.iaload, 1) := by decide +kernel
theorem d_ND_insert_52 : decode b_ND_insert 52 = .ok (.iastore, 1) := by decide +kernel
theorem d_ND_insert_53 : decode b_ND_insert 53 = .ok (.aload_n 0, 1) := by decide +kernel
theorem d_ND_insert_54 : decode b_ND_insert 54 = .ok (.getfield 15, 3) := by decide +kernel
theorem d_ND_insert_57 : decode b_ND_insert 57 = .ok (.iload 4, 2) := by decide +kernel
theorem d_ND_insert_59 : decode b_ND_insert 59 = .ok (.aload_n 0, 1) := by decide +kernel
theorem d_ND_insert_60 : decode b_ND_insert 60 = .ok (.getfield 15, 3) := by decide +kernel
theorem d_ND_insert_63 : decode b_ND_insert 63 = .ok (.iload 4, 2) := by decide +kernel
theorem d_ND_insert_65 : decode b_ND_insert 65 = .ok (.iconst 1, 1) := by decide +kernel
theorem d_ND_insert_66 : decode b_ND_insert 66 = .ok (.isub, 1) := by decide +kernel
theorem d_ND_insert_67 : decode b_ND_insert 67 = .ok (.iaload, 1) := by decide +kernel
theorem d_ND_insert_68 : decode b_ND_insert 68 = .ok (.iastore, 1) := by decide +kernel
theorem d_ND_insert_69 : decode b_ND_insert 69 = .ok (.iinc 4 (-1), 3) := by decide +kernel
theorem d_ND_insert_72 : decode b_ND_insert 72 = .ok (.goto (-41), 3) := by decide +kernel
theorem d_ND_insert_75 : decode b_ND_insert 75 = .ok (.aload_n 0, 1) := by decide +kernel
theorem d_ND_insert_76 : decode b_ND_insert 76 = .ok (.getfield 9, 3) := by decide +kernel
theorem d_ND_insert_79 : decode b_ND_insert 79 = .ok (.iload_n 1, 1) := by decide +kernel
theorem d_ND_insert_80 : decode b_ND_insert 80 = .ok (.iload_n 2, 1) := by decide +kernel
theorem d_ND_insert_81 : decode b_ND_insert 81 = .ok (.iastore, 1) := by decide +kernel
theorem d_ND_insert_82 : decode b_ND_insert 82 = .ok (.aload_n 0, 1) := by decide +kernel
theorem d_ND_insert_83 : decode b_ND_insert 83 = .ok (.getfield 15, 3) := by decide +kernel
theorem d_ND_insert_86 : decode b_ND_insert 86 = .ok (.iload_n 1, 1) := by decide +kernel
theorem d_ND_insert_87 : decode b_ND_insert 87 = .ok (.iload_n 3, 1) := by decide +kernel
theorem d_ND_insert_88 : decode b_ND_insert 88 = .ok (.iastore, 1) := by decide +kernel
theorem d_ND_insert_89 : decode b_ND_insert 89 = .ok (.aload_n 0, 1) := by decide +kernel
theorem d_ND_insert_90 : decode b_ND_insert 90 = .ok (.dup, 1) := by decide +kernel
theorem d_ND_insert_91 : decode b_ND_insert 91 = .ok (.getfield 40, 3) := by decide +kernel
theorem d_ND_insert_94 : decode b_ND_insert 94 = .ok (.iconst 1, 1) := by decide +kernel
theorem d_ND_insert_95 : decode b_ND_insert 95 = .ok (.iadd, 1) := by decide +kernel
theorem d_ND_insert_96 : decode b_ND_insert 96 = .ok (.putfield 40, 3) := by decide +kernel
theorem d_ND_insert_99 : decode b_ND_insert 99 = .ok (.return_, 1) := by decide +kernel
theorem d_ND_valueOf_0 : decode b_ND_valueOf 0 = .ok (.aload_n 0, 1) := by decide +kernel
theorem d_ND_valueOf_1 : decode b_ND_valueOf 1 = .ok (.iload_n 1, 1) := by decide +kernel
theorem d_ND_valueOf_2 : decode b_ND_valueOf 2 = .ok (.invokevirtual 43, 3) := by decide +kernel
theorem d_ND_valueOf_5 : decode b_ND_valueOf 5 = .ok (.istore_n 2, 1) := by decide +kernel
theorem d_ND_valueOf_6 : decode b_ND_valueOf 6 = .ok (.aload_n 0, 1) := by decide +kernel
theorem d_ND_valueOf_7 : decode b_ND_valueOf 7 = .ok (.iload_n 2, 1) := by decide +kernel
theorem d_ND_valueOf_8 : decode b_ND_valueOf 8 = .ok (.iload_n 1, 1) := by decide +kernel
theorem d_ND_valueOf_9 : decode b_ND_valueOf 9 = .ok (.invokevirtual 47, 3) := by decide +kernel
theorem d_ND_valueOf_12 : decode b_ND_valueOf 12 = .ok (.ifCond .eq 12, 3) := by decide +kernel
theorem d_ND_valueOf_15 : decode b_ND_valueOf 15 = .ok (.aload_n 0, 1) := by decide +kernel
theorem d_ND_valueOf_16 : decode b_ND_valueOf 16 = .ok (.getfield 15, 3) := by decide +kernel
theorem d_ND_valueOf_19 : decode b_ND_valueOf 19 = .ok (.iload_n 2, 1) := by decide +kernel
theorem d_ND_valueOf_20 : decode b_ND_valueOf 20 = .ok (.iaload, 1) := by decide +kernel
theorem d_ND_valueOf_21 : decode b_ND_valueOf 21 = .ok (.goto 4, 3) := by decide +kernel
theorem d_ND_valueOf_24 : decode b_ND_valueOf 24 = .ok (.iconst (-1), 1) := by decide +kernel
theorem d_ND_valueOf_25 : decode b_ND_valueOf 25 = .ok (.ireturn, 1) := by decide +kernel
theorem d_ND_hasKeyAt_0 : decode b_ND_hasKeyAt 0 = .ok (.iload_n 1, 1) := by decide +kernel
theorem d_ND_hasKeyAt_1 : decode b_ND_hasKeyAt 1 = .ok (.aload_n 0, 1) := by decide +kernel
theorem d_ND_hasKeyAt_2 : decode b_ND_hasKeyAt 2 = .ok (.getfield 40, 3) := by decide +kernel
theorem d_ND_hasKeyAt_5 : decode b_ND_hasKeyAt 5 = .ok (.if_icmp .ge 17, 3) := by decide +kernel
theorem d_ND_hasKeyAt_8 : decode b_ND_hasKeyAt 8 = .ok (.aload_n 0, 1) := by decide +kernel
theorem d_ND_hasKeyAt_9 : decode b_ND_hasKeyAt 9 = .ok (.getfield 9, 3) := by decide +kernel
theorem d_ND_hasKeyAt_12 : decode b_ND_hasKeyAt 12 = .ok (.iload_n 1, 1) := by decide +kernel
theorem d_ND_hasKeyAt_13 : decode b_ND_hasKeyAt 13 = .ok (.iaload, 1) := by decide +kernel
theorem d_ND_hasKeyAt_14 : decode b_ND_hasKeyAt 14 = .ok (.iload_n 2, 1) := by decide +kernel
theorem d_ND_hasKeyAt_15 : decode b_ND_hasKeyAt 15 = .ok (.if_icmp .ne 7, 3) := by decide +kernel
theorem d_ND_hasKeyAt_18 : decode b_ND_hasKeyAt 18 = .ok (.iconst 1, 1) := by decide +kernel
theorem d_ND_hasKeyAt_19 : decode b_ND_hasKeyAt 19 = .ok (.goto 4, 3) := by decide +kernel
theorem d_ND_hasKeyAt_22 : decode b_ND_hasKeyAt 22 = .ok (.iconst 0, 1) := by decide +kernel
theorem d_ND_hasKeyAt_23 : decode b_ND_hasKeyAt 23 = .ok (.ireturn, 1) := by decide +kernel
theorem d_LT_lock_0 : decode b_LT_lock 0 = .ok (.aload_n 2, 1) := by decide +kernel
theorem d_LT_lock_1 : decode b_LT_lock 1 = .ok (.getfield 145, 3) := by decide +kernel
theorem d_LT_lock_4 : decode b_LT_lock 4 = .ok (.iconst (-1), 1) := by decide +kernel
theorem d_LT_lock_5 : decode b_LT_lock 5 = .ok (.if_icmp .eq 16, 3) := by decide +kernel
theorem d_LT_lock_8 : decode b_LT_lock 8 = .ok (.aload_n 2, 1) := by decide +kernel
theorem d_LT_lock_9 : decode b_LT_lock 9 = .ok (.getfield 145, 3) := by decide +kernel
theorem d_LT_lock_12 : decode b_LT_lock 12 = .ok (.aload_n 1, 1) := by decide +kernel
theorem d_LT_lock_13 : decode b_LT_lock 13 = .ok (.getfield 223, 3) := by decide +kernel
theorem d_LT_lock_16 : decode b_LT_lock 16 = .ok (.if_icmp .eq 5, 3) := by decide +kernel
theorem d_LT_lock_19 : decode b_LT_lock 19 = .ok (.iconst 1, 1) := by decide +kernel
theorem d_LT_lock_20 : decode b_LT_lock 20 = .ok (.ireturn, 1) := by decide +kernel
theorem d_LT_lock_21 : decode b_LT_lock 21 = .ok (.aload_n 2, 1) := by decide +kernel
theorem d_LT_lock_22 : decode b_LT_lock 22 = .ok (.aload_n 1, 1) := by decide +kernel
theorem d_LT_lock_23 : decode b_LT_lock 23 = .ok (.getfield 223, 3) := by decide +kernel
theorem d_LT_lock_26 : decode b_LT_lock 26 = .ok (.putfield 145, 3) := by decide +kernel
theorem d_LT_lock_29 : decode b_LT_lock 29 = .ok (.aload_n 1, 1) := by decide +kernel
theorem d_LT_lock_30 : decode b_LT_lock 30 = .ok (.iconst 2, 1) := by decide +kernel
theorem d_LT_lock_31 : decode b_LT_lock 31 = .ok (.putfield 115, 3) := by decide +kernel
theorem d_LT_lock_34 : decode b_LT_lock 34 = .ok (.iconst 0, 1) := by decide +kernel
theorem d_LT_lock_35 : decode b_LT_lock 35 = .ok (.ireturn, 1) := by decide +kernel
theorem d_LT_hold_0 : decode b_LT_hold 0 = .ok (.aload_n 2, 1) := by decide +kernel
theorem d_LT_hold_1 : decode b_LT_hold 1 = .ok (.aload_n 1, 1) := by decide +kernel
theorem d_LT_hold_2 : decode b_LT_hold 2 = .ok (.getfield 72, 3) := by decide +kernel
theorem d_LT_hold_5 : decode b_LT_hold 5 = .ok (.invokevirtual 189, 3) := by decide +kernel
theorem d_LT_hold_8 : decode b_LT_hold 8 = .ok (.ifCond .eq 12, 3) := by decide +kernel
theorem d_LT_hold_11 : decode b_LT_hold 11 = .ok (.aload_n 0, 1) := by decide +kernel
theorem d_LT_hold_12 : decode b_LT_hold 12 = .ok (.aload_n 1, 1) := by decide +kernel
theorem d_LT_hold_13 : decode b_LT_hold 13 = .ok (.invokevirtual 192, 3) := by decide +kernel
theorem d_LT_hold_16 : decode b_LT_hold 16 = .ok (.istore_n 3, 1) := by decide +kernel
theorem d_LT_hold_17 : decode b_LT_hold 17 = .ok (.goto 90, 3) := by decide +kernel
theorem d_LT_hold_20 : decode b_LT_hold 20 = .ok (.aload_n 2, 1) := by decide +kernel
theorem d_LT_hold_21 : decode b_LT_hold 21 = .ok (.getfield 136, 3) := by decide +kernel
theorem d_LT_hold_24 : decode b_LT_hold 24 = .ok (.aload_n 1, 1) := by decide +kernel
theorem d_LT_hold_25 : decode b_LT_hold 25 = .ok (.getfield 72, 3) := by decide +kernel
theorem d_LT_hold_28 : decode b_LT_hold 28 = .ok (.if_icmp .ge 18, 3) := by decide +kernel
theorem d_LT_hold_31 : decode b_LT_hold 31 = .ok (.aload_n 1, 1) := by decide +kernel
theorem d_LT_hold_32 : decode b_LT_hold 32 = .ok (.iconst 1, 1) := by decide +kernel
theorem d_LT_hold_33 : decode b_LT_hold 33 = .ok (.putfield 115, 3) := by decide +kernel
theorem d_LT_hold_36 : decode b_LT_hold 36 = .ok (.aload_n 0, 1) := by decide +kernel
theorem d_LT_hold_37 : decode b_LT_hold 37 = .ok (.aload_n 1, 1) := by decide +kernel
theorem d_LT_hold_38 : decode b_LT_hold 38 = .ok (.aload_n 2, 1) := by decide +kernel
theorem d_LT_hold_39 : decode b_LT_hold 39 = .ok (.invokevirtual 195, 3) := by decide +kernel
theorem d_LT_hold_42 : decode b_LT_hold 42 = .ok (.istore_n 3, 1) := by decide +kernel
theorem d_LT_hold_43 : decode b_LT_hold 43 = .ok (.goto 64, 3) := by decide +kernel
theorem d_LT_hold_46 : decode b_LT_hold 46 = .ok (.aload_n 1, 1) := by decide +kernel
theorem d_LT_hold_47 : decode b_LT_hold 47 = .ok (.getfield 69, 3) := by decide +kernel
theorem d_LT_hold_50 : decode b_LT_hold 50 = .ok (.iconst 1, 1) := by decide +kernel
theorem d_LT_hold_51 : decode b_LT_hold 51 = .ok (.if_icmp .ne 13, 3) := by decide +kernel
theorem d_LT_hold_54 : decode b_LT_hold 54 = .ok (.aload_n 0, 1) := by decide +kernel
theorem d_LT_hold_55 : decode b_LT_hold 55 = .ok (.aload_n 1, 1) := by decide +kernel
theorem d_LT_hold_56 : decode b_LT_hold 56 = .ok (.aload_n 2, 1) := by decide +kernel
theorem d_LT_hold_57 : decode b_LT_hold 57 = .ok (.invokevirtual 224, 3) := by decide +kernel
theorem d_LT_hold_60 : decode b_LT_hold 60 = .ok (.istore_n 3, 1) := by decide +kernel
theorem d_LT_hold_61 : decode b_LT_hold 61 = .ok (.goto 46, 3) := by decide +kernel
theorem d_LT_hold_64 : decode b_LT_hold 64 = .ok (.aload_n 1, 1) := by decide +kernel
theorem d_LT_hold_65 : decode b_LT_hold 65 = .ok (.getfield 69, 3) := by decide +kernel
theorem d_LT_hold_68 : decode b_LT_hold 68 = .ok (.iconst 2, 1) := by decide +kernel
theorem d_LT_hold_69 : decode b_LT_hold 69 = .ok (.if_icmp .ne 13, 3) := by decide +kernel
theorem d_LT_hold_72 : decode b_LT_hold 72 = .ok (.aload_n 0, 1) := by decide +kernel
theorem d_LT_hold_73 : decode b_LT_hold 73 = .ok (.aload_n 1, 1) := by decide +kernel
theorem d_LT_hold_74 : decode b_LT_hold 74 = .ok (.aload_n 2, 1) := by decide +kernel
theorem d_LT_hold_75 : decode b_LT_hold 75 = .ok (.invokevirtual 227, 3) := by decide +kernel
theorem d_LT_hold_78 : decode b_LT_hold 78 = .ok (.istore_n 3, 1) := by decide +kernel
theorem d_LT_hold_79 : decode b_LT_hold 79 = .ok (.goto 28, 3) := by decide +kernel
theorem d_LT_hold_82 : decode b_LT_hold 82 = .ok (.aload_n 1, 1) := by decide +kernel
theorem d_LT_hold_83 : decode b_LT_hold 83 = .ok (.getfield 69, 3) := by decide +kernel
theorem d_LT_hold_86 : decode b_LT_hold 86 = .ok (.iconst 3, 1) := by decide +kernel
theorem d_LT_hold_87 : decode b_LT_hold 87 = .ok (.if_icmp .ne 13, 3) := by decide +kernel
theorem d_LT_hold_90 : decode b_LT_hold 90 = .ok (.aload_n 0, 1) := by decide +kernel
theorem d_LT_hold_91 : decode b_LT_hold 91 = .ok (.aload_n 1, 1) := by decide +kernel
theorem d_LT_hold_92 : decode b_LT_hold 92 = .ok (.aload_n 2, 1) := by decide +kernel
theorem d_LT_hold_93 : decode b_LT_hold 93 = .ok (.invokevirtual 230, 3) := by decide +kernel
theorem d_LT_hold_96 : decode b_LT_hold 96 = .ok (.istore_n 3, 1) := by decide +kernel
theorem d_LT_hold_97 : decode b_LT_hold 97 = .ok (.goto 10, 3) := by decide +kernel
theorem d_LT_hold_100 : decode b_LT_hold 100 = .ok (.aload_n 0, 1) := by decide +kernel
theorem d_LT_hold_101 : decode b_LT_hold 101 = .ok (.aload_n 1, 1) := by decide +kernel
theorem d_LT_hold_102 : decode b_LT_hold 102 = .ok (.aload_n 2, 1) := by decide +kernel
theorem d_LT_hold_103 : decode b_LT_hold 103 = .ok (.invokevirtual 233, 3) := by decide +kernel
theorem d_LT_hold_106 : decode b_LT_hold 106 = .ok (.istore_n 3, 1) := by decide +kernel
theorem d_LT_hold_107 : decode b_LT_hold 107 = .ok (.iload_n 3, 1) := by decide +kernel
theorem d_LT_hold_108 : decode b_LT_hold 108 = .ok (.iconst 1, 1) := by decide +kernel
theorem d_LT_hold_109 : decode b_LT_hold 109 = .ok (.if_icmp .eq 8, 3) := by decide +kernel
theorem d_LT_hold_112 : decode b_LT_hold 112 = .ok (.aload_n 2, 1) := by decide +kernel
theorem d_LT_hold_113 : decode b_LT_hold 113 = .ok (.iconst (-1), 1) := by decide +kernel
theorem d_LT_hold_114 : decode b_LT_hold 114 = .ok (.putfield 145, 3) := by decide +kernel
theorem d_LT_hold_117 : decode b_LT_hold 117 = .ok (.iload_n 3, 1) := by decide +kernel
theorem d_LT_hold_118 : decode b_LT_hold 118 = .ok (.ireturn, 1) := by decide +kernel
theorem d_LT_put_0 : decode b_LT_put 0 = .ok (.aload_n 2, 1) := by decide +kernel
theorem d_LT_put_1 : decode b_LT_put 1 = .ok (.aload_n 1, 1) := by decide +kernel
theorem d_LT_put_2 : decode b_LT_put 2 = .ok (.getfield 72, 3) := by decide +kernel
theorem d_LT_put_5 : decode b_LT_put 5 = .ok (.invokevirtual 239, 3) := by decide +kernel
theorem d_LT_put_8 : decode b_LT_put 8 = .ok (.istore_n 3, 1) := by decide +kernel
theorem d_LT_put_9 : decode b_LT_put 9 = .ok (.aload_n 2, 1) := by decide +kernel
theorem d_LT_put_10 : decode b_LT_put 10 = .ok (.iload_n 3, 1) := by decide +kernel
theorem d_LT_put_11 : decode b_LT_put 11 = .ok (.aload_n 1, 1) := by decide +kernel
theorem d_LT_put_12 : decode b_LT_put 12 = .ok (.getfield 72, 3) := by decide +kernel
theorem d_LT_put_15 : decode b_LT_put 15 = .ok (.invokevirtual 242, 3) := by decide +kernel
theorem d_LT_put_18 : decode b_LT_put 18 = .ok (.ifCond .eq 29, 3) := by decide +kernel
theorem d_LT_put_21 : decode b_LT_put 21 = .ok (.aload_n 2, 1) := by decide +kernel
theorem d_LT_put_22 : decode b_LT_put 22 = .ok (.getfield 154, 3) := by decide +kernel
theorem d_LT_put_25 : decode b_LT_put 25 = .ok (.iload_n 3, 1) := by decide +kernel
theorem d_LT_put_26 : decode b_LT_put 26 = .ok (.iaload, 1) := by decide +kernel
theorem d_LT_put_27 : decode b_LT_put 27 = .ok (.istore 4, 2) := by decide +kernel
theorem d_LT_put_29 : decode b_LT_put 29 = .ok (.aload_n 2, 1) := by decide +kernel
theorem d_LT_put_30 : decode b_LT_put 30 = .ok (.getfield 154, 3) := by decide +kernel
theorem d_LT_put_33 : decode b_LT_put 33 = .ok (.iload_n 3, 1) := by decide +kernel
theorem d_LT_put_34 : decode b_LT_put 34 = .ok (.aload_n 1, 1) := by decide +kernel
theorem d_LT_put_35 : decode b_LT_put 35 = .ok (.getfield 75, 3) := by decide +kernel
theorem d_LT_put_38 : decode b_LT_put 38 = .ok (.iastore, 1) := by decide +kernel
theorem d_LT_put_39 : decode b_LT_put 39 = .ok (.aload_n 0, 1) := by decide +kernel
theorem d_LT_put_40 : decode b_LT_put 40 = .ok (.aload_n 1, 1) := by decide +kernel
theorem d_LT_put_41 : decode b_LT_put 41 = .ok (.iload 4, 2) := by decide +kernel
theorem d_LT_put_43 : decode b_LT_put 43 = .ok (.invokevirtual 175, 3) := by decide +kernel
theorem d_LT_put_46 : decode b_LT_put 46 = .ok (.ireturn, 1) := by decide +kernel
theorem d_LT_put_47 : decode b_LT_put 47 = .ok (.aload_n 2, 1) := by decide +kernel
theorem d_LT_put_48 : decode b_LT_put 48 = .ok (.getfield 142, 3) := by decide +kernel
theorem d_LT_put_51 : decode b_LT_put 51 = .ok (.iconst 4, 1) := by decide +kernel
theorem d_LT_put_52 : decode b_LT_put 52 = .ok (.if_icmp .ge 23, 3) := by decide +kernel
theorem d_LT_put_55 : decode b_LT_put 55 = .ok (.aload_n 2, 1) := by decide +kernel
theorem d_LT_put_56 : decode b_LT_put 56 = .ok (.iload_n 3, 1) := by decide +kernel
theorem d_LT_put_57 : decode b_LT_put 57 = .ok (.aload_n 1, 1) := by decide +kernel
theorem d_LT_put_58 : decode b_LT_put 58 = .ok (.getfield 72, 3) := by decide +kernel
theorem d_LT_put_61 : decode b_LT_put 61 = .ok (.aload_n 1, 1) := by decide +kernel
theorem d_LT_put_62 : decode b_LT_put 62 = .ok (.getfield 75, 3) := by decide +kernel
theorem d_LT_put_65 : decode b_LT_put 65 = .ok (.invokevirtual 219, 3) := by decide +kernel
theorem d_LT_put_68 : decode b_LT_put 68 = .ok (.aload_n 0, 1) := by decide +kernel
theorem d_LT_put_69 : decode b_LT_put 69 = .ok (.aload_n 1, 1) := by decide +kernel
theorem d_LT_put_70 : decode b_LT_put 70 = .ok (.iconst (-1), 1) := by decide +kernel
theorem d_LT_put_71 : decode b_LT_put 71 = .ok (.invokevirtual 175, 3) := by decide +kernel
theorem d_LT_put_74 : decode b_LT_put 74 = .ok (.ireturn, 1) := by decide +kernel
theorem d_LT_put_75 : decode b_LT_put 75 = .ok (.aload_n 0, 1) := by decide +kernel
theorem d_LT_put_76 : decode b_LT_put 76 = .ok (.invokevirtual 215, 3) := by decide +kernel
theorem d_LT_put_79 : decode b_LT_put 79 = .ok (.astore 4, 2) := by decide +kernel
theorem d_LT_put_81 : decode b_LT_put 81 = .ok (.aload 4, 2) := by decide +kernel
theorem d_LT_put_83 : decode b_LT_put 83 = .ok (.ifnonnull 11, 3) := by decide +kernel
theorem d_LT_put_86 : decode b_LT_put 86 = .ok (.aload_n 0, 1) := by decide +kernel
theorem d_LT_put_87 : decode b_LT_put 87 = .ok (.aload_n 1, 1) := by decide +kernel
theorem d_LT_put_88 : decode b_LT_put 88 = .ok (.bipush (-2), 2) := by decide +kernel
theorem d_LT_put_90 : decode b_LT_put 90 = .ok (.invokevirtual 175, 3) := by decide +kernel
theorem d_LT_put_93 : decode b_LT_put 93 = .ok (.ireturn, 1) := by decide +kernel
theorem d_LT_put_94 : decode b_LT_put 94 = .ok (.aload_n 2, 1) := by decide +kernel
theorem d_LT_put_95 : decode b_LT_put 95 = .ok (.iload_n 3, 1) := by decide +kernel
theorem d_LT_put_96 : decode b_LT_put 96 = .ok (.aload_n 1, 1) := by decide +kernel
theorem d_LT_put_97 : decode b_LT_put 97 = .ok (.getfield 72, 3) := by decide +kernel
theorem d_LT_put_100 : decode b_LT_put 100 = .ok (.aload_n 1, 1) := by decide +kernel
theorem d_LT_put_101 : decode b_LT_put 101 = .ok (.getfield 75, 3) := by decide +kernel
theorem d_LT_put_104 : decode b_LT_put 104 = .ok (.invokevirtual 219, 3) := by decide +kernel
theorem d_LT_put_107 : decode b_LT_put 107 = .ok (.aload_n 0, 1) := by decide +kernel
theorem d_LT_put_108 : decode b_LT_put 108 = .ok (.aload_n 1, 1) := by decide +kernel
theorem d_LT_put_109 : decode b_LT_put 109 = .ok (.aload_n 2, 1) := by decide +kernel
theorem d_LT_put_110 : decode b_LT_put 110 = .ok (.aload 4, 2) := by decide +kernel
theorem d_LT_put_112 : decode b_LT_put 112 = .ok (.invokevirtual 246, 3) := by decide +kernel
theorem d_LT_put_115 : decode b_LT_put 115 = .ok (.iconst 3, 1) := by decide +kernel
theorem d_LT_put_116 : decode b_LT_put 116 = .ok (.ireturn, 1) := by decide +kernel
theorem d_LT_split_0 : decode b_LT_split 0 = .ok (.aload_n 2, 1) := by decide +kernel
theorem d_LT_split_1 : decode b_LT_split 1 = .ok (.getfield 158, 3) := by decide +kernel
theorem d_LT_split_4 : decode b_LT_split 4 = .ok (.iconst 2, 1) := by decide +kernel
theorem d_LT_split_5 : decode b_LT_split 5 = .ok (.iaload, 1) := by decide +kernel
theorem d_LT_split_6 : decode b_LT_split 6 = .ok (.istore 4, 2) := by decide +kernel
theorem d_LT_split_8 : decode b_LT_split 8 = .ok (.aload_n 3, 1) := by decide +kernel
theorem d_LT_split_9 : decode b_LT_split 9 = .ok (.aload_n 2, 1) := by decide +kernel
theorem d_LT_split_10 : decode b_LT_split 10 = .ok (.getfield 132, 3) := by decide +kernel
theorem d_LT_split_13 : decode b_LT_split 13 = .ok (.iload 4, 2) := by decide +kernel
theorem d_LT_split_15 : decode b_LT_split 15 = .ok (.aload_n 2, 1) := by decide +kernel
theorem d_LT_split_16 : decode b_LT_split 16 = .ok (.getfield 136, 3) := by decide +kernel
theorem d_LT_split_19 : decode b_LT_split 19 = .ok (.aload_n 2, 1) := by decide +kernel
theorem d_LT_split_20 : decode b_LT_split 20 = .ok (.getfield 139, 3) := by decide +kernel
theorem d_LT_split_23 : decode b_LT_split 23 = .ok (.invokevirtual 43, 3) := by decide +kernel
theorem d_LT_split_26 : decode b_LT_split 26 = .ok (.iconst 3, 1) := by decide +kernel
theorem d_LT_split_27 : decode b_LT_split 27 = .ok (.istore 5, 2) := by decide +kernel
theorem d_LT_split_29 : decode b_LT_split 29 = .ok (.iload 5, 2) := by decide +kernel
theorem d_LT_split_31 : decode b_LT_split 31 = .ok (.aload_n 2, 1) := by decide +kernel
theorem d_LT_split_32 : decode b_LT_split 32 = .ok (.getfield 142, 3) := by decide +kernel
theorem d_LT_split_35 : decode b_LT_split 35 = .ok (.if_icmp .ge 31, 3) := by decide +kernel
theorem d_LT_split_38 : decode b_LT_split 38 = .ok (.aload_n 3, 1) := by decide +kernel
theorem d_LT_split_39 : decode b_LT_split 39 = .ok (.aload_n 3, 1) := by decide +kernel
theorem d_LT_split_40 : decode b_LT_split 40 = .ok (.getfield 142, 3) := by decide +kernel
theorem d_LT_split_43 : decode b_LT_split 43 = .ok (.aload_n 2, 1) := by decide +kernel
theorem d_LT_split_44 : decode b_LT_split 44 = .ok (.getfield 158, 3) := by decide +kernel
theorem d_LT_split_47 : decode b_LT_split 47 = .ok (.iload 5, 2) := by decide +kernel
theorem d_LT_split_49 : decode b_LT_split 49 = .ok (.iaload, 1) := by decide +kernel
theorem d_LT_split_50 : decode b_LT_split 50 = .ok (.aload_n 2, 1) := by decide +kernel
theorem d_LT_split_51 : decode b_LT_split 51 = .ok (.getfield 154, 3) := by decide +kernel
theorem d_LT_split_54 : decode b_LT_split 54 = .ok (.iload 5, 2) := by decide +kernel
theorem d_LT_split_56 : decode b_LT_split 56 = .ok (.iaload, 1) := by decide +kernel
theorem d_LT_split_57 : decode b_LT_split 57 = .ok (.invokevirtual 219, 3) := by decide +kernel
theorem d_LT_split_60 : decode b_LT_split 60 = .ok (.iinc 5 1, 3) := by decide +kernel
theorem d_LT_split_63 : decode b_LT_split 63 = .ok (.goto (-34), 3) := by decide +kernel
theorem d_LT_split_66 : decode b_LT_split 66 = .ok (.aload_n 2, 1) := by decide +kernel
theorem d_LT_split_67 : decode b_LT_split 67 = .ok (.iconst 3, 1) := by decide +kernel
theorem d_LT_split_68 : decode b_LT_split 68 = .ok (.putfield 142, 3) := by decide +kernel
theorem d_LT_split_71 : decode b_LT_split 71 = .ok (.aload_n 2, 1) := by decide +kernel
theorem d_LT_split_72 : decode b_LT_split 72 = .ok (.iload 4, 2) := by decide +kernel
theorem d_LT_split_74 : decode b_LT_split 74 = .ok (.putfield 136, 3) := by decide +kernel
theorem d_LT_split_77 : decode b_LT_split 77 = .ok (.aload_n 2, 1) := by decide +kernel
theorem d_LT_split_78 : decode b_LT_split 78 = .ok (.aload_n 3, 1) := by decide +kernel
theorem d_LT_split_79 : decode b_LT_split 79 = .ok (.getfield 198, 3) := by decide +kernel
theorem d_LT_split_82 : decode b_LT_split 82 = .ok (.putfield 139, 3) := by decide +kernel
theorem d_LT_split_85 : decode b_LT_split 85 = .ok (.aload_n 1, 1) := by decide +kernel
theorem d_LT_split_86 : decode b_LT_split 86 = .ok (.iconst 4, 1) := by decide +kernel
theorem d_LT_split_87 : decode b_LT_split 87 = .ok (.putfield 69, 3) := by decide +kernel
theorem d_LT_split_90 : decode b_LT_split 90 = .ok (.aload_n 1, 1) := by decide +kernel
theorem d_LT_split_91 : decode b_LT_split 91 = .ok (.aload_n 3, 1) := by decide +kernel
theorem d_LT_split_92 : decode b_LT_split 92 = .ok (.getfield 198, 3) := by decide +kernel
theorem d_LT_split_95 : decode b_LT_split 95 = .ok (.putfield 172, 3) := by decide +kernel
theorem d_LT_split_98 : decode b_LT_split 98 = .ok (.aload_n 1, 1) := by decide +kernel
theorem d_LT_split_99 : decode b_LT_split 99 = .ok (.iload 4, 2) := by decide +kernel
theorem d_LT_split_101 : decode b_LT_split 101 = .ok (.putfield 72, 3) := by decide +kernel
theorem d_LT_split_104 : decode b_LT_split 104 = .ok (.aload_n 1, 1) := by decide +kernel
theorem d_LT_split_105 : decode b_LT_split 105 = .ok (.aload_n 2, 1) := by decide +kernel
theorem d_LT_split_106 : decode b_LT_split 106 = .ok (.getfield 132, 3) := by decide +kernel
theorem d_LT_split_109 : decode b_LT_split 109 = .ok (.iconst 1, 1) := by decide +kernel
theorem d_LT_split_110 : decode b_LT_split 110 = .ok (.iadd, 1) := by decide +kernel
theorem d_LT_split_111 : decode b_LT_split 111 = .ok (.putfield 78, 3) := by decide +kernel
theorem d_LT_split_114 : decode b_LT_split 114 = .ok (.aload_n 1, 1) := by decide +kernel
theorem d_LT_split_115 : decode b_LT_split 115 = .ok (.iconst 0, 1) := by decide +kernel
theorem d_LT_split_116 : decode b_LT_split 116 = .ok (.putfield 115, 3) := by decide +kernel
theorem d_LT_split_119 : decode b_LT_split 119 = .ok (.aload_n 1, 1) := by decide +kernel
theorem d_LT_split_120 : decode b_LT_split 120 = .ok (.aload_n 1, 1) := by decide +kernel
theorem d_LT_split_121 : decode b_LT_split 121 = .ok (.getfield 78, 3) := by decide +kernel
theorem d_LT_split_124 : decode b_LT_split 124 = .ok (.invokevirtual 253, 3) := by decide +kernel
theorem d_LT_split_127 : decode b_LT_split 127 = .ok (.istore 5, 2) := by decide +kernel
theorem d_LT_split_129 : decode b_LT_split 129 = .ok (.aload_n 1, 1) := by decide +kernel
theorem d_LT_split_130 : decode b_LT_split 130 = .ok (.iload 5, 2) := by decide +kernel
theorem d_LT_split_132 : decode b_LT_split 132 = .ok (.iconst (-1), 1) := by decide +kernel
theorem d_LT_split_133 : decode b_LT_split 133 = .ok (.if_icmp .ne 10, 3) := by decide +kernel
theorem d_LT_split_136 : decode b_LT_split 136 = .ok (.aload_n 0, 1) := by decide +kernel
theorem d_LT_split_137 : decode b_LT_split 137 = .ok (.getfield 40, 3) := by decide +kernel
theorem d_LT_split_140 : decode b_LT_split 140 = .ok (.goto 5, 3) := by decide +kernel
theorem d_LT_split_143 : decode b_LT_split 143 = .ok (.iload 5, 2) := by decide +kernel
theorem d_LT_split_145 : decode b_LT_split 145 = .ok (.putfield 118, 3) := by decide +kernel
theorem d_LT_split_148 : decode b_LT_split 148 = .ok (.return_, 1) := by decide +kernel
theorem d_TA_notedAt_0 : decode b_TA_notedAt 0 = .ok (.iload_n 1, 1) := by decide +kernel
theorem d_TA_notedAt_1 : decode b_TA_notedAt 1 = .ok (.ifCond .lt 21, 3) := by decide +kernel
theorem d_TA_notedAt_4 : decode b_TA_notedAt 4 = .ok (.iload_n 1, 1) := by decide +kernel
theorem d_TA_notedAt_5 : decode b_TA_notedAt 5 = .ok (.aload_n 0, 1) := by decide +kernel
theorem d_TA_notedAt_6 : decode b_TA_notedAt 6 = .ok (.getfield 9, 3) := by decide +kernel
theorem d_TA_notedAt_9 : decode b_TA_notedAt 9 = .ok (.arraylength, 1) := by decide +kernel
theorem d_TA_notedAt_10 : decode b_TA_notedAt 10 = .ok (.if_icmp .ge 12, 3) := by decide +kernel
theorem d_TA_notedAt_13 : decode b_TA_notedAt 13 = .ok (.aload_n 0, 1) := by decide +kernel
theorem d_TA_notedAt_14 : decode b_TA_notedAt 14 = .ok (.getfield 9, 3) := by decide +kernel
theorem d_TA_notedAt_17 : decode b_TA_notedAt 17 = .ok (.iload_n 1, 1) := by decide +kernel
theorem d_TA_notedAt_18 : decode b_TA_notedAt 18 = .ok (.iaload, 1) := by decide +kernel
theorem d_TA_notedAt_19 : decode b_TA_notedAt 19 = .ok (.goto 4, 3) := by decide +kernel
theorem d_TA_notedAt_22 : decode b_TA_notedAt 22 = .ok (.iconst (-1), 1) := by decide +kernel
theorem d_TA_notedAt_23 : decode b_TA_notedAt 23 = .ok (.ireturn, 1) := by decide +kernel
theorem d_LT_remove_0 : decode b_LT_remove 0 = .ok (.aload_n 2, 1) := by decide +kernel
theorem d_LT_remove_1 : decode b_LT_remove 1 = .ok (.aload_n 1, 1) := by decide +kernel
theorem d_LT_remove_2 : decode b_LT_remove 2 = .ok (.getfield 72, 3) := by decide +kernel
theorem d_LT_remove_5 : decode b_LT_remove 5 = .ok (.invokevirtual 239, 3) := by decide +kernel
theorem d_LT_remove_8 : decode b_LT_remove 8 = .ok (.istore_n 3, 1) := by decide +kernel
theorem d_LT_remove_9 : decode b_LT_remove 9 = .ok (.aload_n 2, 1) := by decide +kernel
theorem d_LT_remove_10 : decode b_LT_remove 10 = .ok (.iload_n 3, 1) := by decide +kernel
theorem d_LT_remove_11 : decode b_LT_remove 11 = .ok (.aload_n 1, 1) := by decide +kernel
theorem d_LT_remove_12 : decode b_LT_remove 12 = .ok (.getfield 72, 3) := by decide +kernel
theorem d_LT_remove_15 : decode b_LT_remove 15 = .ok (.invokevirtual 242, 3) := by decide +kernel
theorem d_LT_remove_18 : decode b_LT_remove 18 = .ok (.ifCond .ne 10, 3) := by decide +kernel
theorem d_LT_remove_21 : decode b_LT_remove 21 = .ok (.aload_n 0, 1) := by decide +kernel
theorem d_LT_remove_22 : decode b_LT_remove 22 = .ok (.aload_n 1, 1) := by decide +kernel
theorem d_LT_remove_23 : decode b_LT_remove 23 = .ok (.iconst (-1), 1) := by decide +kernel
theorem d_LT_remove_24 : decode b_LT_remove 24 = .ok (.invokevirtual 175, 3) := by decide +kernel
theorem d_LT_remove_27 : decode b_LT_remove 27 = .ok (.ireturn, 1) := by decide +kernel
theorem d_LT_remove_28 : decode b_LT_remove 28 = .ok (.aload_n 2, 1) := by decide +kernel
theorem d_LT_remove_29 : decode b_LT_remove 29 = .ok (.getfield 154, 3) := by decide +kernel
theorem d_LT_remove_32 : decode b_LT_remove 32 = .ok (.iload_n 3, 1) := by decide +kernel
theorem d_LT_remove_33 : decode b_LT_remove 33 = .ok (.iaload, 1) := by decide +kernel
theorem d_LT_remove_34 : decode b_LT_remove 34 = .ok (.istore 4, 2) := by decide +kernel
theorem d_LT_remove_36 : decode b_LT_remove 36 = .ok (.aload_n 2, 1) := by decide +kernel
theorem d_LT_remove_37 : decode b_LT_remove 37 = .ok (.iload_n 3, 1) := by decide +kernel
theorem d_LT_remove_38 : decode b_LT_remove 38 = .ok (.invokevirtual 256, 3) := by decide +kernel
theorem d_LT_remove_41 : decode b_LT_remove 41 = .ok (.aload_n 2, 1) := by decide +kernel
theorem d_LT_remove_42 : decode b_LT_remove 42 = .ok (.getfield 142, 3) := by decide +kernel
theorem d_LT_remove_45 : decode b_LT_remove 45 = .ok (.iconst 2, 1) := by decide +kernel
theorem d_LT_remove_46 : decode b_LT_remove 46 = .ok (.if_icmp .ge 25, 3) := by decide +kernel
theorem d_LT_remove_49 : decode b_LT_remove 49 = .ok (.aload_n 2, 1) := by decide +kernel
theorem d_LT_remove_50 : decode b_LT_remove 50 = .ok (.getfield 198, 3) := by decide +kernel
theorem d_LT_remove_53 : decode b_LT_remove 53 = .ok (.aload_n 0, 1) := by decide +kernel
theorem d_LT_remove_54 : decode b_LT_remove 54 = .ok (.getfield 40, 3) := by decide +kernel
theorem d_LT_remove_57 : decode b_LT_remove 57 = .ok (.if_icmp .eq 14, 3) := by decide +kernel
theorem d_LT_remove_60 : decode b_LT_remove 60 = .ok (.aload_n 0, 1) := by decide +kernel
theorem d_LT_remove_61 : decode b_LT_remove 61 = .ok (.getfield 36, 3) := by decide +kernel
theorem d_LT_remove_64 : decode b_LT_remove 64 = .ok (.aload_n 2, 1) := by decide +kernel
theorem d_LT_remove_65 : decode b_LT_remove 65 = .ok (.getfield 198, 3) := by decide +kernel
theorem d_LT_remove_68 : decode b_LT_remove 68 = .ok (.invokevirtual 259, 3) := by decide +kernel
theorem d_LT_remove_71 : decode b_LT_remove 71 = .ok (.aload_n 0, 1) := by decide +kernel
theorem d_LT_remove_72 : decode b_LT_remove 72 = .ok (.aload_n 1, 1) := by decide +kernel
theorem d_LT_remove_73 : decode b_LT_remove 73 = .ok (.iload 4, 2) := by decide +kernel
theorem d_LT_remove_75 : decode b_LT_remove 75 = .ok (.invokevirtual 175, 3) := by decide +kernel
theorem d_LT_remove_78 : decode b_LT_remove 78 = .ok (.ireturn, 1) := by decide +kernel
theorem d_ND_delete_0 : decode b_ND_delete 0 = .ok (.iload_n 1, 1) := by decide +kernel
theorem d_ND_delete_1 : decode b_ND_delete 1 = .ok (.ifCond .lt 11, 3) := by decide +kernel
theorem d_ND_delete_4 : decode b_ND_delete 4 = .ok (.iload_n 1, 1) := by decide +kernel
theorem d_ND_delete_5 : decode b_ND_delete 5 = .ok (.aload_n 0, 1) := by decide +kernel
theorem d_ND_delete_6 : decode b_ND_delete 6 = .ok (.getfield 40, 3) := by decide +kernel
theorem d_ND_delete_9 : decode b_ND_delete 9 = .ok (.if_icmp .lt 4, 3) := by decide +kernel
theorem d_ND_delete_12 : decode b_ND_delete 12 = .ok (.return_, 1) := by decide +kernel
theorem d_ND_delete_13 : decode b_ND_delete 13 = .ok (.aload_n 0, 1) := by decide +kernel
theorem d_ND_delete_14 : decode b_ND_delete 14 = .ok (.dup, 1) := by decide +kernel
theorem d_ND_delete_15 : decode b_ND_delete 15 = .ok (.getfield 40, 3) := by decide +kernel
theorem d_ND_delete_18 : decode b_ND_delete 18 = .ok (.iconst 1, 1) := by decide +kernel
theorem d_ND_delete_19 : decode b_ND_delete 19 = .ok (.isub, 1) := by decide +kernel
theorem d_ND_delete_20 : decode b_ND_delete 20 = .ok (.putfield 40, 3) := by decide +kernel
theorem d_ND_delete_23 : decode b_ND_delete 23 = .ok (.iload_n 1, 1) := by decide +kernel
theorem d_ND_delete_24 : decode b_ND_delete 24 = .ok (.istore_n 2, 1) := by decide +kernel
theorem d_ND_delete_25 : decode b_ND_delete 25 = .ok (.iload_n 2, 1) := by decide +kernel
theorem d_ND_delete_26 : decode b_ND_delete 26 = .ok (.aload_n 0, 1) := by decide +kernel
theorem d_ND_delete_27 : decode b_ND_delete 27 = .ok (.getfield 40, 3) := by decide +kernel
theorem d_ND_delete_30 : decode b_ND_delete 30 = .ok (.if_icmp .ge 37, 3) := by decide +kernel
theorem d_ND_delete_33 : decode b_ND_delete 33 = .ok (.aload_n 0, 1) := by decide +kernel
theorem d_ND_delete_34 : decode b_ND_delete 34 = .ok (.getfield 9, 3) := by decide +kernel
theorem d_ND_delete_37 : decode b_ND_delete 37 = .ok (.iload_n 2, 1) := by decide +kernel
theorem d_ND_delete_38 : decode b_ND_delete 38 = .ok (.aload_n 0, 1) := by decide +kernel
theorem d_ND_delete_39 : decode b_ND_delete 39 = .ok (.getfield 9, 3) := by decide +kernel
theorem d_ND_delete_42 : decode b_ND_delete 42 = .ok (.iload_n 2, 1) := by decide +kernel
theorem d_ND_delete_43 : decode b_ND_delete 43 = .ok (.iconst 1, 1) := by decide +kernel
theorem d_ND_delete_44 : decode b_ND_delete 44 = .ok (.iadd, 1) := by decide +kernel
theorem d_ND_delete_45 : decode b_ND_delete 45 = .ok (.iaload, 1) := by decide +kernel
theorem d_ND_delete_46 : decode b_ND_delete 46 = .ok (.iastore, 1) := by decide +kernel
theorem d_ND_delete_47 : decode b_ND_delete 47 = .ok (.aload_n 0, 1) := by decide +kernel
theorem d_ND_delete_48 : decode b_ND_delete 48 = .ok (.getfield 15, 3) := by decide +kernel
theorem d_ND_delete_51 : decode b_ND_delete 51 = .ok (.iload_n 2, 1) := by decide +kernel
theorem d_ND_delete_52 : decode b_ND_delete 52 = .ok (.aload_n 0, 1) := by decide +kernel
theorem d_ND_delete_53 : decode b_ND_delete 53 = .ok (.getfield 15, 3) := by decide +kernel
theorem d_ND_delete_56 : decode b_ND_delete 56 = .ok (.iload_n 2, 1) := by decide +kernel
theorem d_ND_delete_57 : decode b_ND_delete 57 = .ok (.iconst 1, 1) := by decide +kernel
theorem d_ND_delete_58 : decode b_ND_delete 58 = .ok (.iadd, 1) := by decide +kernel
theorem d_ND_delete_59 : decode b_ND_delete 59 = .ok (.iaload, 1) := by decide +kernel
theorem d_ND_delete_60 : decode b_ND_delete 60 = .ok (.iastore, 1) := by decide +kernel
theorem d_ND_delete_61 : decode b_ND_delete 61 = .ok (.iinc 2 1, 3) := by decide +kernel
theorem d_ND_delete_64 : decode b_ND_delete 64 = .ok (.goto (-39), 3) := by decide +kernel
theorem d_ND_delete_67 : decode b_ND_delete 67 = .ok (.return_, 1) := by decide +kernel
theorem d_SP_add_0 : decode b_SP_add 0 = .ok (.aload_n 0, 1) := by decide +kernel
theorem d_SP_add_1 : decode b_SP_add 1 = .ok (.getfield 15, 3) := by decide +kernel
theorem d_SP_add_4 : decode b_SP_add 4 = .ok (.bipush 12, 2) := by decide +kernel
theorem d_SP_add_6 : decode b_SP_add 6 = .ok (.if_icmp .ge 31, 3) := by decide +kernel
theorem d_SP_add_9 : decode b_SP_add 9 = .ok (.aload_n 0, 1) := by decide +kernel
theorem d_SP_add_10 : decode b_SP_add 10 = .ok (.iload_n 1, 1) := by decide +kernel
theorem d_SP_add_11 : decode b_SP_add 11 = .ok (.invokevirtual 19, 3) := by decide +kernel
theorem d_SP_add_14 : decode b_SP_add 14 = .ok (.ifCond .ne 23, 3) := by decide +kernel
theorem d_SP_add_17 : decode b_SP_add 17 = .ok (.aload_n 0, 1) := by decide +kernel
theorem d_SP_add_18 : decode b_SP_add 18 = .ok (.getfield 9, 3) := by decide +kernel
theorem d_SP_add_21 : decode b_SP_add 21 = .ok (.aload_n 0, 1) := by decide +kernel
theorem d_SP_add_22 : decode b_SP_add 22 = .ok (.getfield 15, 3) := by decide +kernel
theorem d_SP_add_25 : decode b_SP_add 25 = .ok (.iload_n 1, 1) := by decide +kernel
theorem d_SP_add_26 : decode b_SP_add 26 = .ok (.iastore, 1) := by decide +kernel
theorem d_SP_add_27 : decode b_SP_add 27 = .ok (.aload_n 0, 1) := by decide +kernel
theorem d_SP_add_28 : decode b_SP_add 28 = .ok (.dup, 1) := by decide +kernel
theorem d_SP_add_29 : decode b_SP_add 29 = .ok (.getfield 15, 3) := by decide +kernel
theorem d_SP_add_32 : decode b_SP_add 32 = .ok (.iconst 1, 1) := by decide +kernel
theorem d_SP_add_33 : decode b_SP_add 33 = .ok (.iadd, 1) := by decide +kernel
theorem d_SP_add_34 : decode b_SP_add 34 = .ok (.putfield 15, 3) := by decide +kernel
theorem d_SP_add_37 : decode b_SP_add 37 = .ok (.return_, 1) := by decide +kernel
theorem d_SP_has_0 : decode b_SP_has 0 = .ok (.iconst 0, 1) := by decide +kernel
theorem d_SP_has_1 : decode b_SP_has 1 = .ok (.istore_n 2, 1) := by decide +kernel
theorem d_SP_has_2 : decode b_SP_has 2 = .ok (.iload_n 2, 1) := by decide +kernel
theorem d_SP_has_3 : decode b_SP_has 3 = .ok (.aload_n 0, 1) := by decide +kernel
theorem d_SP_has_4 : decode b_SP_has 4 = .ok (.getfield 15, 3) := by decide +kernel
theorem d_SP_has_7 : decode b_SP_has 7 = .ok (.if_icmp .ge 21, 3) := by decide +kernel
theorem d_SP_has_10 : decode b_SP_has 10 = .ok (.aload_n 0, 1) := by decide +kernel
theorem d_SP_has_11 : decode b_SP_has 11 = .ok (.getfield 9, 3) := by decide +kernel
theorem d_SP_has_14 : decode b_SP_has 14 = .ok (.iload_n 2, 1) := by decide +kernel
theorem d_SP_has_15 : decode b_SP_has 15 = .ok (.iaload, 1) := by decide +kernel
theorem d_SP_has_16 : decode b_SP_has 16 = .ok (.iload_n 1, 1) := by decide +kernel
theorem d_SP_has_17 : decode b_SP_has 17 = .ok (.if_icmp .ne 5, 3) := by decide +kernel
theorem d_SP_has_20 : decode b_SP_has 20 = .ok (.iconst 1, 1) := by decide +kernel
theorem d_SP_has_21 : decode b_SP_has 21 = .ok (.ireturn, 1) := by decide +kernel
theorem d_SP_has_22 : decode b_SP_has 22 = .ok (.iinc 2 1, 3) := by decide +kernel
theorem d_SP_has_25 : decode b_SP_has 25 = .ok (.goto (-23), 3) := by decide +kernel
theorem d_SP_has_28 : decode b_SP_has 28 = .ok (.iconst 0, 1) := by decide +kernel
theorem d_SP_has_29 : decode b_SP_has 29 = .ok (.ireturn, 1) := by decide +kernel
theorem d_LT_join_0 : decode b_LT_join 0 = .ok (.aload_n 2, 1) := by decide +kernel
theorem d_LT_join_1 : decode b_LT_join 1 = .ok (.aload_n 1, 1) := by decide +kernel
theorem d_LT_join_2 : decode b_LT_join 2 = .ok (.getfield 172, 3) := by decide +kernel
theorem d_LT_join_5 : decode b_LT_join 5 = .ok (.invokevirtual 262, 3) := by decide +kernel
theorem d_LT_join_8 : decode b_LT_join 8 = .ok (.istore_n 3, 1) := by decide +kernel
theorem d_LT_join_9 : decode b_LT_join 9 = .ok (.aload_n 0, 1) := by decide +kernel
theorem d_LT_join_10 : decode b_LT_join 10 = .ok (.aload_n 1, 1) := by decide +kernel
theorem d_LT_join_11 : decode b_LT_join 11 = .ok (.getfield 172, 3) := by decide +kernel
theorem d_LT_join_14 : decode b_LT_join 14 = .ok (.invokevirtual 148, 3) := by decide +kernel
theorem d_LT_join_17 : decode b_LT_join 17 = .ok (.getfield 22, 3) := by decide +kernel
theorem d_LT_join_20 : decode b_LT_join 20 = .ok (.iconst 1, 1) := by decide +kernel
theorem d_LT_join_21 : decode b_LT_join 21 = .ok (.if_icmp .ne 16, 3) := by decide +kernel
theorem d_LT_join_24 : decode b_LT_join 24 = .ok (.iload_n 3, 1) := by decide +kernel
theorem d_LT_join_25 : decode b_LT_join 25 = .ok (.iconst (-1), 1) := by decide +kernel
theorem d_LT_join_26 : decode b_LT_join 26 = .ok (.if_icmp .eq 11, 3) := by decide +kernel
theorem d_LT_join_29 : decode b_LT_join 29 = .ok (.aload_n 2, 1) := by decide +kernel
theorem d_LT_join_30 : decode b_LT_join 30 = .ok (.getfield 142, 3) := by decide +kernel
theorem d_LT_join_33 : decode b_LT_join 33 = .ok (.iconst 2, 1) := by decide +kernel
theorem d_LT_join_34 : decode b_LT_join 34 = .ok (.if_icmp .ge 10, 3) := by decide +kernel
theorem d_LT_join_37 : decode b_LT_join 37 = .ok (.aload_n 0, 1) := by decide +kernel
theorem d_LT_join_38 : decode b_LT_join 38 = .ok (.aload_n 1, 1) := by decide +kernel
theorem d_LT_join_39 : decode b_LT_join 39 = .ok (.iconst 0, 1) := by decide +kernel
theorem d_LT_join_40 : decode b_LT_join 40 = .ok (.invokevirtual 175, 3) := by decide +kernel
theorem d_LT_join_43 : decode b_LT_join 43 = .ok (.ireturn, 1) := by decide +kernel
theorem d_LT_join_44 : decode b_LT_join 44 = .ok (.iload_n 3, 1) := by decide +kernel
theorem d_LT_join_45 : decode b_LT_join 45 = .ok (.iconst 1, 1) := by decide +kernel
theorem d_LT_join_46 : decode b_LT_join 46 = .ok (.iadd, 1) := by decide +kernel
theorem d_LT_join_47 : decode b_LT_join 47 = .ok (.aload_n 2, 1) := by decide +kernel
theorem d_LT_join_48 : decode b_LT_join 48 = .ok (.getfield 142, 3) := by decide +kernel
theorem d_LT_join_51 : decode b_LT_join 51 = .ok (.if_icmp .ge 7, 3) := by decide +kernel
theorem d_LT_join_54 : decode b_LT_join 54 = .ok (.iload_n 3, 1) := by decide +kernel
theorem d_LT_join_55 : decode b_LT_join 55 = .ok (.goto 6, 3) := by decide +kernel
theorem d_LT_join_58 : decode b_LT_join 58 = .ok (.iload_n 3, 1) := by decide +kernel
theorem d_LT_join_59 : decode b_LT_join 59 = .ok (.iconst 1, 1) := by decide +kernel
theorem d_LT_join_60 : decode b_LT_join 60 = .ok (.isub, 1) := by decide +kernel
theorem d_LT_join_61 : decode b_LT_join 61 = .ok (.istore 4, 2) := by decide +kernel
theorem d_LT_join_63 : decode b_LT_join 63 = .ok (.aload_n 0, 1) := by decide +kernel
theorem d_LT_join_64 : decode b_LT_join 64 = .ok (.aload_n 2, 1) := by decide +kernel
theorem d_LT_join_65 : decode b_LT_join 65 = .ok (.getfield 154, 3) := by decide +kernel
theorem d_LT_join_68 : decode b_LT_join 68 = .ok (.iload 4, 2) := by decide +kernel
theorem d_LT_join_70 : decode b_LT_join 70 = .ok (.iaload, 1) := by decide +kernel
theorem d_LT_join_71 : decode b_LT_join 71 = .ok (.invokevirtual 148, 3) := by decide +kernel
theorem d_LT_join_74 : decode b_LT_join 74 = .ok (.astore 5, 2) := by decide +kernel
theorem d_LT_join_76 : decode b_LT_join 76 = .ok (.aload_n 0, 1) := by decide +kernel
theorem d_LT_join_77 : decode b_LT_join 77 = .ok (.aload_n 2, 1) := by decide +kernel
theorem d_LT_join_78 : decode b_LT_join 78 = .ok (.getfield 154, 3) := by decide +kernel
theorem d_LT_join_81 : decode b_LT_join 81 = .ok (.iload 4, 2) := by decide +kernel
theorem d_LT_join_83 : decode b_LT_join 83 = .ok (.iconst 1, 1) := by decide +kernel
theorem d_LT_join_84 : decode b_LT_join 84 = .ok (.iadd, 1) := by decide +kernel
theorem d_LT_join_85 : decode b_LT_join 85 = .ok (.iaload, 1) := by decide +kernel
theorem d_LT_join_86 : decode b_LT_join 86 = .ok (.invokevirtual 148, 3) := by decide +kernel
theorem d_LT_join_89 : decode b_LT_join 89 = .ok (.astore 6, 2) := by decide +kernel
theorem d_LT_join_91 : decode b_LT_join 91 = .ok (.aload 5, 2) := by decide +kernel
theorem d_LT_join_93 : decode b_LT_join 93 = .ok (.getfield 145, 3) := by decide +kernel
theorem d_LT_join_96 : decode b_LT_join 96 = .ok (.iconst (-1), 1) := by decide +kernel
theorem d_LT_join_97 : decode b_LT_join 97 = .ok (.if_icmp .ne 12, 3) := by decide +kernel
theorem d_LT_join_100 : decode b_LT_join 100 = .ok (.aload 6, 2) := by decide +kernel
theorem d_LT_join_102 : decode b_LT_join 102 = .ok (.getfield 145, 3) := by decide +kernel
theorem d_LT_join_105 : decode b_LT_join 105 = .ok (.iconst (-1), 1) := by decide +kernel
theorem d_LT_join_106 : decode b_LT_join 106 = .ok (.if_icmp .eq 5, 3) := by decide +kernel
theorem d_LT_join_109 : decode b_LT_join 109 = .ok (.iconst 1, 1) := by decide +kernel
theorem d_LT_join_110 : decode b_LT_join 110 = .ok (.ireturn, 1) := by decide +kernel
theorem d_LT_join_111 : decode b_LT_join 111 = .ok (.aload 5, 2) := by decide +kernel
theorem d_LT_join_113 : decode b_LT_join 113 = .ok (.getfield 136, 3) := by decide +kernel
theorem d_LT_join_116 : decode b_LT_join 116 = .ok (.aload_n 2, 1) := by decide +kernel
theorem d_LT_join_117 : decode b_LT_join 117 = .ok (.getfield 158, 3) := by decide +kernel
theorem d_LT_join_120 : decode b_LT_join 120 = .ok (.iload 4, 2) := by decide +kernel
theorem d_LT_join_122 : decode b_LT_join 122 = .ok (.iaload, 1) := by decide +kernel
theorem d_LT_join_123 : decode b_LT_join 123 = .ok (.if_icmp .ne 20, 3) := by decide +kernel
theorem d_LT_join_126 : decode b_LT_join 126 = .ok (.aload 6, 2) := by decide +kernel
theorem d_LT_join_128 : decode b_LT_join 128 = .ok (.getfield 136, 3) := by decide +kernel
theorem d_LT_join_131 : decode b_LT_join 131 = .ok (.aload_n 2, 1) := by decide +kernel
theorem d_LT_join_132 : decode b_LT_join 132 = .ok (.getfield 158, 3) := by decide +kernel
theorem d_LT_join_135 : decode b_LT_join 135 = .ok (.iload 4, 2) := by decide +kernel
theorem d_LT_join_137 : decode b_LT_join 137 = .ok (.iconst 1, 1) := by decide +kernel
theorem d_LT_join_138 : decode b_LT_join 138 = .ok (.iadd, 1) := by decide +kernel
theorem d_LT_join_139 : decode b_LT_join 139 = .ok (.iaload, 1) := by decide +kernel
theorem d_LT_join_140 : decode b_LT_join 140 = .ok (.if_icmp .eq 10, 3) := by decide +kernel
theorem d_LT_join_143 : decode b_LT_join 143 = .ok (.aload_n 0, 1) := by decide +kernel
theorem d_LT_join_144 : decode b_LT_join 144 = .ok (.aload_n 1, 1) := by decide +kernel
theorem d_LT_join_145 : decode b_LT_join 145 = .ok (.iconst 0, 1) := by decide +kernel
theorem d_LT_join_146 : decode b_LT_join 146 = .ok (.invokevirtual 175, 3) := by decide +kernel
theorem d_LT_join_149 : decode b_LT_join 149 = .ok (.ireturn, 1) := by decide +kernel
theorem d_LT_join_150 : decode b_LT_join 150 = .ok (.aload 5, 2) := by decide +kernel
theorem d_LT_join_152 : decode b_LT_join 152 = .ok (.getfield 142, 3) := by decide +kernel
theorem d_LT_join_155 : decode b_LT_join 155 = .ok (.aload 6, 2) := by decide +kernel
theorem d_LT_join_157 : decode b_LT_join 157 = .ok (.getfield 142, 3) := by decide +kernel
theorem d_LT_join_160 : decode b_LT_join 160 = .ok (.iadd, 1) := by decide +kernel
theorem d_LT_join_161 : decode b_LT_join 161 = .ok (.iconst 4, 1) := by decide +kernel
theorem d_LT_join_162 : decode b_LT_join 162 = .ok (.if_icmp .gt 38, 3) := by decide +kernel
theorem d_LT_join_165 : decode b_LT_join 165 = .ok (.aload 5, 2) := by decide +kernel
theorem d_LT_join_167 : decode b_LT_join 167 = .ok (.aload 6, 2) := by decide +kernel
theorem d_LT_join_169 : decode b_LT_join 169 = .ok (.invokevirtual 265, 3) := by decide +kernel
theorem d_LT_join_172 : decode b_LT_join 172 = .ok (.aload_n 0, 1) := by decide +kernel
theorem d_LT_join_173 : decode b_LT_join 173 = .ok (.aload 6, 2) := by decide +kernel
theorem d_LT_join_175 : decode b_LT_join 175 = .ok (.aload_n 1, 1) := by decide +kernel
theorem d_LT_join_176 : decode b_LT_join 176 = .ok (.invokevirtual 269, 3) := by decide +kernel
theorem d_LT_join_179 : decode b_LT_join 179 = .ok (.aload_n 2, 1) := by decide +kernel
theorem d_LT_join_180 : decode b_LT_join 180 = .ok (.iload 4, 2) := by decide +kernel
theorem d_LT_join_182 : decode b_LT_join 182 = .ok (.invokevirtual 256, 3) := by decide +kernel
theorem d_LT_join_185 : decode b_LT_join 185 = .ok (.aload_n 2, 1) := by decide +kernel
theorem d_LT_join_186 : decode b_LT_join 186 = .ok (.getfield 154, 3) := by decide +kernel
theorem d_LT_join_189 : decode b_LT_join 189 = .ok (.iload 4, 2) := by decide +kernel
theorem d_LT_join_191 : decode b_LT_join 191 = .ok (.aload 5, 2) := by decide +kernel
theorem d_LT_join_193 : decode b_LT_join 193 = .ok (.getfield 198, 3) := by decide +kernel
theorem d_LT_join_196 : decode b_LT_join 196 = .ok (.iastore, 1) := by decide +kernel
theorem d_LT_join_197 : decode b_LT_join 197 = .ok (.goto 22, 3) := by decide +kernel
theorem d_LT_join_200 : decode b_LT_join 200 = .ok (.aload 5, 2) := by decide +kernel
theorem d_LT_join_202 : decode b_LT_join 202 = .ok (.aload 6, 2) := by decide +kernel
theorem d_LT_join_204 : decode b_LT_join 204 = .ok (.invokevirtual 273, 3) := by decide +kernel
theorem d_LT_join_207 : decode b_LT_join 207 = .ok (.aload_n 2, 1) := by decide +kernel
theorem d_LT_join_208 : decode b_LT_join 208 = .ok (.getfield 158, 3) := by decide +kernel
theorem d_LT_join_211 : decode b_LT_join 211 = .ok (.iload 4, 2) := by decide +kernel
theorem d_LT_join_213 : decode b_LT_join 213 = .ok (.aload 5, 2) := by decide +kernel
theorem d_LT_join_215 : decode b_LT_join 215 = .ok (.getfield 136, 3) := by decide +kernel
theorem d_LT_join_218 : decode b_LT_join 218 = .ok (.iastore, 1) := by decide +kernel
theorem d_LT_join_219 : decode b_LT_join 219 = .ok (.aload_n 2, 1) := by decide +kernel
theorem d_LT_join_220 : decode b_LT_join 220 = .ok (.getfield 142, 3) := by decide +kernel
theorem d_LT_join_223 : decode b_LT_join 223 = .ok (.iconst 1, 1) := by decide +kernel
theorem d_LT_join_224 : decode b_LT_join 224 = .ok (.if_icmp .ne 9, 3) := by decide +kernel
theorem d_LT_join_227 : decode b_LT_join 227 = .ok (.aload_n 0, 1) := by decide +kernel
theorem d_LT_join_228 : decode b_LT_join 228 = .ok (.aload_n 2, 1) := by decide +kernel
theorem d_LT_join_229 : decode b_LT_join 229 = .ok (.aload_n 1, 1) := by decide +kernel
theorem d_LT_join_230 : decode b_LT_join 230 = .ok (.invokevirtual 276, 3) := by decide +kernel
theorem d_LT_join_233 : decode b_LT_join 233 = .ok (.aload_n 0, 1) := by decide +kernel
theorem d_LT_join_234 : decode b_LT_join 234 = .ok (.aload_n 1, 1) := by decide +kernel
theorem d_LT_join_235 : decode b_LT_join 235 = .ok (.iconst 1, 1) := by decide +kernel
theorem d_LT_join_236 : decode b_LT_join 236 = .ok (.invokevirtual 175, 3) := by decide +kernel
theorem d_LT_join_239 : decode b_LT_join 239 = .ok (.ireturn, 1) := by decide +kernel
theorem d_ND_entryOfChild_0 : decode b_ND_entryOfChild 0 = .ok (.iconst 0, 1) := by decide +kernel
theorem d_ND_entryOfChild_1 : decode b_ND_entryOfChild 1 = .ok (.istore_n 2, 1) := by decide +kernel
theorem d_ND_entryOfChild_2 : decode b_ND_entryOfChild 2 = .ok (.iload_n 2, 1) := by decide +kernel
theorem d_ND_entryOfChild_3 : decode b_ND_entryOfChild 3 = .ok (.aload_n 0, 1) := by decide +kernel
theorem d_ND_entryOfChild_4 : decode b_ND_entryOfChild 4 = .ok (.getfield 40, 3) := by decide +kernel
theorem d_ND_entryOfChild_7 : decode b_ND_entryOfChild 7 = .ok (.if_icmp .ge 21, 3) := by decide +kernel
theorem d_ND_entryOfChild_10 : decode b_ND_entryOfChild 10 = .ok (.aload_n 0, 1) := by decide +kernel
theorem d_ND_entryOfChild_11 : decode b_ND_entryOfChild 11 = .ok (.getfield 15, 3) := by decide +kernel
theorem d_ND_entryOfChild_14 : decode b_ND_entryOfChild 14 = .ok (.iload_n 2, 1) := by decide +kernel
theorem d_ND_entryOfChild_15 : decode b_ND_entryOfChild 15 = .ok (.iaload, 1) := by decide +kernel
theorem d_ND_entryOfChild_16 : decode b_ND_entryOfChild 16 = .ok (.iload_n 1, 1) := by decide +kernel
theorem d_ND_entryOfChild_17 : decode b_ND_entryOfChild 17 = .ok (.if_icmp .ne 5, 3) := by decide +kernel
theorem d_ND_entryOfChild_20 : decode b_ND_entryOfChild 20 = .ok (.iload_n 2, 1) := by decide +kernel
theorem d_ND_entryOfChild_21 : decode b_ND_entryOfChild 21 = .ok (.ireturn, 1) := by decide +kernel
theorem d_ND_entryOfChild_22 : decode b_ND_entryOfChild 22 = .ok (.iinc 2 1, 3) := by decide +kernel
theorem d_ND_entryOfChild_25 : decode b_ND_entryOfChild 25 = .ok (.goto (-23), 3) := by decide +kernel
theorem d_ND_entryOfChild_28 : decode b_ND_entryOfChild 28 = .ok (.iconst (-1), 1) := by decide +kernel
theorem d_ND_entryOfChild_29 : decode b_ND_entryOfChild 29 = .ok (.ireturn, 1) := by decide +kernel
theorem d_ND_takeAllOf_0 : decode b_ND_takeAllOf 0 = .ok (.aload_n 0, 1) := by decide +kernel
theorem d_ND_takeAllOf_1 : decode b_ND_takeAllOf 1 = .ok (.aload_n 1, 1) := by decide +kernel
theorem d_ND_takeAllOf_2 : decode b_ND_takeAllOf 2 = .ok (.aload_n 1, 1) := by decide +kernel
theorem d_ND_takeAllOf_3 : decode b_ND_takeAllOf 3 = .ok (.getfield 40, 3) := by decide +kernel
theorem d_ND_takeAllOf_6 : decode b_ND_takeAllOf 6 = .ok (.invokevirtual 55, 3) := by decide +kernel
theorem d_ND_takeAllOf_9 : decode b_ND_takeAllOf 9 = .ok (.aload_n 0, 1) := by decide +kernel
theorem d_ND_takeAllOf_10 : decode b_ND_takeAllOf 10 = .ok (.aload_n 1, 1) := by decide +kernel
theorem d_ND_takeAllOf_11 : decode b_ND_takeAllOf 11 = .ok (.getfield 37, 3) := by decide +kernel
theorem d_ND_takeAllOf_14 : decode b_ND_takeAllOf 14 = .ok (.putfield 37, 3) := by decide +kernel
theorem d_ND_takeAllOf_17 : decode b_ND_takeAllOf 17 = .ok (.aload_n 0, 1) := by decide +kernel
theorem d_ND_takeAllOf_18 : decode b_ND_takeAllOf 18 = .ok (.aload_n 1, 1) := by decide +kernel
theorem d_ND_takeAllOf_19 : decode b_ND_takeAllOf 19 = .ok (.getfield 22, 3) := by decide +kernel
theorem d_ND_takeAllOf_22 : decode b_ND_takeAllOf 22 = .ok (.putfield 22, 3) := by decide +kernel
theorem d_ND_takeAllOf_25 : decode b_ND_takeAllOf 25 = .ok (.return_, 1) := by decide +kernel
theorem d_ND_moveFirstOf_0 : decode b_ND_moveFirstOf 0 = .ok (.iconst 0, 1) := by decide +kernel
theorem d_ND_moveFirstOf_1 : decode b_ND_moveFirstOf 1 = .ok (.istore_n 3, 1) := by decide +kernel
theorem d_ND_moveFirstOf_2 : decode b_ND_moveFirstOf 2 = .ok (.iload_n 3, 1) := by decide +kernel
theorem d_ND_moveFirstOf_3 : decode b_ND_moveFirstOf 3 = .ok (.iload_n 2, 1) := by decide +kernel
theorem d_ND_moveFirstOf_4 : decode b_ND_moveFirstOf 4 = .ok (.if_icmp .ge 34, 3) := by decide +kernel
theorem d_ND_moveFirstOf_7 : decode b_ND_moveFirstOf 7 = .ok (.aload_n 0, 1) := by decide +kernel
theorem d_ND_moveFirstOf_8 : decode b_ND_moveFirstOf 8 = .ok (.aload_n 0, 1) := by decide +kernel
theorem d_ND_moveFirstOf_9 : decode b_ND_moveFirstOf 9 = .ok (.getfield 40, 3) := by decide +kernel
theorem d_ND_moveFirstOf_12 : decode b_ND_moveFirstOf 12 = .ok (.aload_n 1, 1) := by decide +kernel
theorem d_ND_moveFirstOf_13 : decode b_ND_moveFirstOf 13 = .ok (.getfield 9, 3) := by decide +kernel
theorem d_ND_moveFirstOf_16 : decode b_ND_moveFirstOf 16 = .ok (.iconst 0, 1) := by decide +kernel
theorem d_ND_moveFirstOf_17 : decode b_ND_moveFirstOf 17 = .ok (.iaload, 1) := by decide +kernel
theorem d_ND_moveFirstOf_18 : decode b_ND_moveFirstOf 18 = .ok (.aload_n 1, 1) := by decide +kernel
theorem d_ND_moveFirstOf_19 : decode b_ND_moveFirstOf 19 = .ok (.getfield 15, 3) := by decide +kernel
theorem d_ND_moveFirstOf_22 : decode b_ND_moveFirstOf 22 = .ok (.iconst 0, 1) := by decide +kernel
theorem d_ND_moveFirstOf_23 : decode b_ND_moveFirstOf 23 = .ok (.iaload, 1) := by decide +kernel
theorem d_ND_moveFirstOf_24 : decode b_ND_moveFirstOf 24 = .ok (.invokevirtual 51, 3) := by decide +kernel
theorem d_ND_moveFirstOf_27 : decode b_ND_moveFirstOf 27 = .ok (.aload_n 1, 1) := by decide +kernel
theorem d_ND_moveFirstOf_28 : decode b_ND_moveFirstOf 28 = .ok (.iconst 0, 1) := by decide +kernel
theorem d_ND_moveFirstOf_29 : decode b_ND_moveFirstOf 29 = .ok (.invokevirtual 62, 3) := by decide +kernel
theorem d_ND_moveFirstOf_32 : decode b_ND_moveFirstOf 32 = .ok (.iinc 3 1, 3) := by decide +kernel
theorem d_ND_moveFirstOf_35 : decode b_ND_moveFirstOf 35 = .ok (.goto (-33), 3) := by decide +kernel
theorem d_ND_moveFirstOf_38 : decode b_ND_moveFirstOf 38 = .ok (.return_, 1) := by decide +kernel
theorem d_LT_die_0 : decode b_LT_die 0 = .ok (.aload_n 0, 1) := by decide +kernel
theorem d_LT_die_1 : decode b_LT_die 1 = .ok (.getfield 36, 3) := by decide +kernel
theorem d_LT_die_4 : decode b_LT_die 4 = .ok (.aload_n 1, 1) := by decide +kernel
theorem d_LT_die_5 : decode b_LT_die 5 = .ok (.getfield 198, 3) := by decide +kernel
theorem d_LT_die_8 : decode b_LT_die 8 = .ok (.invokevirtual 279, 3) := by decide +kernel
theorem d_LT_die_11 : decode b_LT_die 11 = .ok (.iconst 0, 1) := by decide +kernel
theorem d_LT_die_12 : decode b_LT_die 12 = .ok (.istore_n 3, 1) := by decide +kernel
theorem d_LT_die_13 : decode b_LT_die 13 = .ok (.iconst 0, 1) := by decide +kernel
theorem d_LT_die_14 : decode b_LT_die 14 = .ok (.istore 4, 2) := by decide +kernel
theorem d_LT_die_16 : decode b_LT_die 16 = .ok (.iload 4, 2) := by decide +kernel
theorem d_LT_die_18 : decode b_LT_die 18 = .ok (.iconst 4, 1) := by decide +kernel
theorem d_LT_die_19 : decode b_LT_die 19 = .ok (.if_icmp .ge 38, 3) := by decide +kernel
theorem d_LT_die_22 : decode b_LT_die 22 = .ok (.iload 4, 2) := by decide +kernel
theorem d_LT_die_24 : decode b_LT_die 24 = .ok (.aload_n 2, 1) := by decide +kernel
theorem d_LT_die_25 : decode b_LT_die 25 = .ok (.getfield 223, 3) := by decide +kernel
theorem d_LT_die_28 : decode b_LT_die 28 = .ok (.if_icmp .eq 23, 3) := by decide +kernel
theorem d_LT_die_31 : decode b_LT_die 31 = .ok (.aload_n 0, 1) := by decide +kernel
theorem d_LT_die_32 : decode b_LT_die 32 = .ok (.getfield 28, 3) := by decide +kernel
theorem d_LT_die_35 : decode b_LT_die 35 = .ok (.iload 4, 2) := by decide +kernel
theorem d_LT_die_37 : decode b_LT_die 37 = .ok (.aaload, 1) := by decide +kernel
theorem d_LT_die_38 : decode b_LT_die 38 = .ok (.getfield 60, 3) := by decide +kernel
theorem d_LT_die_41 : decode b_LT_die 41 = .ok (.ifCond .ne 10, 3) := by decide +kernel
theorem d_LT_die_44 : decode b_LT_die 44 = .ok (.iload_n 3, 1) := by decide +kernel
theorem d_LT_die_45 : decode b_LT_die 45 = .ok (.iconst 1, 1) := by decide +kernel
theorem d_LT_die_46 : decode b_LT_die 46 = .ok (.iload 4, 2) := by decide +kernel
theorem d_LT_die_48 : decode b_LT_die 48 = .ok (.ishl, 1) := by decide +kernel
theorem d_LT_die_49 : decode b_LT_die 49 = .ok (.ior, 1) := by decide +kernel
theorem d_LT_die_50 : decode b_LT_die 50 = .ok (.istore_n 3, 1) := by decide +kernel
theorem d_LT_die_51 : decode b_LT_die 51 = .ok (.iinc 4 1, 3) := by decide +kernel
theorem d_LT_die_54 : decode b_LT_die 54 = .ok (.goto (-38), 3) := by decide +kernel
theorem d_LT_die_57 : decode b_LT_die 57 = .ok (.aload_n 1, 1) := by decide +kernel
theorem d_LT_die_58 : decode b_LT_die 58 = .ok (.iload_n 3, 1) := by decide +kernel
theorem d_LT_die_59 : decode b_LT_die 59 = .ok (.invokevirtual 282, 3) := by decide +kernel
theorem d_LT_die_62 : decode b_LT_die 62 = .ok (.return_, 1) := by decide +kernel
theorem d_ND_shareWith_0 : decode b_ND_shareWith 0 = .ok (.aload_n 0, 1) := by decide +kernel
theorem d_ND_shareWith_1 : decode b_ND_shareWith 1 = .ok (.getfield 40, 3) := by decide +kernel
theorem d_ND_shareWith_4 : decode b_ND_shareWith 4 = .ok (.aload_n 1, 1) := by decide +kernel
theorem d_ND_shareWith_5 : decode b_ND_shareWith 5 = .ok (.getfield 40, 3) := by decide +kernel
theorem d_ND_shareWith_8 : decode b_ND_shareWith 8 = .ok (.iadd, 1) := by decide +kernel
theorem d_ND_shareWith_9 : decode b_ND_shareWith 9 = .ok (.iconst 1, 1) := by decide +kernel
theorem d_ND_shareWith_10 : decode b_ND_shareWith 10 = .ok (.iadd, 1) := by decide +kernel
theorem d_ND_shareWith_11 : decode b_ND_shareWith 11 = .ok (.iconst 2, 1) := by decide +kernel
theorem d_ND_shareWith_12 : decode b_ND_shareWith 12 = .ok (.idiv, 1) := by decide +kernel
theorem d_ND_shareWith_13 : decode b_ND_shareWith 13 = .ok (.istore_n 2, 1) := by decide +kernel
theorem d_ND_shareWith_14 : decode b_ND_shareWith 14 = .ok (.aload_n 0, 1) := by decide +kernel
theorem d_ND_shareWith_15 : decode b_ND_shareWith 15 = .ok (.aload_n 1, 1) := by decide +kernel
theorem d_ND_shareWith_16 : decode b_ND_shareWith 16 = .ok (.iload_n 2, 1) := by decide +kernel
theorem d_ND_shareWith_17 : decode b_ND_shareWith 17 = .ok (.aload_n 0, 1) := by decide +kernel
theorem d_ND_shareWith_18 : decode b_ND_shareWith 18 = .ok (.getfield 40, 3) := by decide +kernel
theorem d_ND_shareWith_21 : decode b_ND_shareWith 21 = .ok (.isub, 1) := by decide +kernel
theorem d_ND_shareWith_22 : decode b_ND_shareWith 22 = .ok (.invokevirtual 55, 3) := by decide +kernel
theorem d_ND_shareWith_25 : decode b_ND_shareWith 25 = .ok (.aload_n 0, 1) := by decide +kernel
theorem d_ND_shareWith_26 : decode b_ND_shareWith 26 = .ok (.aload_n 1, 1) := by decide +kernel
theorem d_ND_shareWith_27 : decode b_ND_shareWith 27 = .ok (.aload_n 0, 1) := by decide +kernel
theorem d_ND_shareWith_28 : decode b_ND_shareWith 28 = .ok (.getfield 40, 3) := by decide +kernel
theorem d_ND_shareWith_31 : decode b_ND_shareWith 31 = .ok (.iload_n 2, 1) := by decide +kernel
theorem d_ND_shareWith_32 : decode b_ND_shareWith 32 = .ok (.isub, 1) := by decide +kernel
theorem d_ND_shareWith_33 : decode b_ND_shareWith 33 = .ok (.invokevirtual 59, 3) := by decide +kernel
theorem d_ND_shareWith_36 : decode b_ND_shareWith 36 = .ok (.aload_n 0, 1) := by decide +kernel
theorem d_ND_shareWith_37 : decode b_ND_shareWith 37 = .ok (.getfield 40, 3) := by decide +kernel
theorem d_ND_shareWith_40 : decode b_ND_shareWith 40 = .ok (.ifCond .le 26, 3) := by decide +kernel
theorem d_ND_shareWith_43 : decode b_ND_shareWith 43 = .ok (.aload_n 0, 1) := by decide +kernel
theorem d_ND_shareWith_44 : decode b_ND_shareWith 44 = .ok (.aload_n 0, 1) := by decide +kernel
theorem d_ND_shareWith_45 : decode b_ND_shareWith 45 = .ok (.getfield 9, 3) := by decide +kernel
theorem d_ND_shareWith_48 : decode b_ND_shareWith 48 = .ok (.aload_n 0, 1) := by decide +kernel
theorem d_ND_shareWith_49 : decode b_ND_shareWith 49 = .ok (.getfield 40, 3) := by decide +kernel
theorem d_ND_shareWith_52 : decode b_ND_shareWith 52 = .ok (.iconst 1, 1) := by decide +kernel
theorem d_ND_shareWith_53 : decode b_ND_shareWith 53 = .ok (.isub, 1) := by decide +kernel
theorem d_ND_shareWith_54 : decode b_ND_shareWith 54 = .ok (.iaload, 1) := by decide +kernel
theorem d_ND_shareWith_55 : decode b_ND_shareWith 55 = .ok (.putfield 37, 3) := by decide +kernel
theorem d_ND_shareWith_58 : decode b_ND_shareWith 58 = .ok (.aload_n 1, 1) := by decide +kernel
theorem d_ND_shareWith_59 : decode b_ND_shareWith 59 = .ok (.aload_n 0, 1) := by decide +kernel
theorem d_ND_shareWith_60 : decode b_ND_shareWith 60 = .ok (.getfield 37, 3) := by decide +kernel
theorem d_ND_shareWith_63 : decode b_ND_shareWith 63 = .ok (.putfield 34, 3) := by decide +kernel
theorem d_ND_shareWith_66 : decode b_ND_shareWith 66 = .ok (.return_, 1) := by decide +kernel
theorem d_ND_moveLastTo_0 : decode b_ND_moveLastTo 0 = .ok (.iconst 0, 1) := by decide +kernel
theorem d_ND_moveLastTo_1 : decode b_ND_moveLastTo 1 = .ok (.istore_n 3, 1) := by decide +kernel
theorem d_ND_moveLastTo_2 : decode b_ND_moveLastTo 2 = .ok (.iload_n 3, 1) := by decide +kernel
theorem d_ND_moveLastTo_3 : decode b_ND_moveLastTo 3 = .ok (.iload_n 2, 1) := by decide +kernel
theorem d_ND_moveLastTo_4 : decode b_ND_moveLastTo 4 = .ok (.if_icmp .ge 53, 3) := by decide +kernel
theorem d_ND_moveLastTo_7 : decode b_ND_moveLastTo 7 = .ok (.aload_n 0, 1) := by decide +kernel
theorem d_ND_moveLastTo_8 : decode b_ND_moveLastTo 8 = .ok (.getfield 40, 3) := by decide +kernel
theorem d_ND_moveLastTo_11 : decode b_ND_moveLastTo 11 = .ok (.ifCond .le 46, 3) := by decide +kernel
theorem d_ND_moveLastTo_14 : decode b_ND_moveLastTo 14 = .ok (.aload_n 1, 1) := by decide +kernel
theorem d_ND_moveLastTo_15 : decode b_ND_moveLastTo 15 = .ok (.iconst 0, 1) := by decide +kernel
theorem d_ND_moveLastTo_16 : decode b_ND_moveLastTo 16 = .ok (.aload_n 0, 1) := by decide +kernel
theorem d_ND_moveLastTo_17 : decode b_ND_moveLastTo 17 = .ok (.getfield 9, 3) := by decide +kernel
theorem d_ND_moveLastTo_20 : decode b_ND_moveLastTo 20 = .ok (.aload_n 0, 1) := by decide +kernel
theorem d_ND_moveLastTo_21 : decode b_ND_moveLastTo 21 = .ok (.getfield 40, 3) := by decide +kernel
theorem d_ND_moveLastTo_24 : decode b_ND_moveLastTo 24 = .ok (.iconst 1, 1) := by decide +kernel
theorem d_ND_moveLastTo_25 : decode b_ND_moveLastTo 25 = .ok (.isub, 1) := by decide +kernel
theorem d_ND_moveLastTo_26 : decode b_ND_moveLastTo 26 = .ok (.iaload, 1) := by decide +kernel
theorem d_ND_moveLastTo_27 : decode b_ND_moveLastTo 27 = .ok (.aload_n 0, 1) := by decide +kernel
theorem d_ND_moveLastTo_28 : decode b_ND_moveLastTo 28 = .ok (.getfield 15, 3) := by decide +kernel
theorem d_ND_moveLastTo_31 : decode b_ND_moveLastTo 31 = .ok (.aload_n 0, 1) := by decide +kernel
theorem d_ND_moveLastTo_32 : decode b_ND_moveLastTo 32 = .ok (.getfield 40, 3) := by decide +kernel
theorem d_ND_moveLastTo_35 : decode b_ND_moveLastTo 35 = .ok (.iconst 1, 1) := by decide +kernel
theorem d_ND_moveLastTo_36 : decode b_ND_moveLastTo 36 = .ok (.isub, 1) := by decide +kernel
theorem d_ND_moveLastTo_37 : decode b_ND_moveLastTo 37 = .ok (.iaload, 1) := by decide +kernel
theorem d_ND_moveLastTo_38 : decode b_ND_moveLastTo 38 = .ok (.invokevirtual 51, 3) := by decide +kernel
theorem d_ND_moveLastTo_41 : decode b_ND_moveLastTo 41 = .ok (.aload_n 0, 1) := by decide +kernel
theorem d_ND_moveLastTo_42 : decode b_ND_moveLastTo 42 = .ok (.dup, 1) := by decide +kernel
theorem d_ND_moveLastTo_43 : decode b_ND_moveLastTo 43 = .ok (.getfield 40, 3) := by decide +kernel
theorem d_ND_moveLastTo_46 : decode b_ND_moveLastTo 46 = .ok (.iconst 1, 1) := by decide +kernel
theorem d_ND_moveLastTo_47 : decode b_ND_moveLastTo 47 = .ok (.isub, 1) := by decide +kernel
theorem d_ND_moveLastTo_48 : decode b_ND_moveLastTo 48 = .ok (.putfield 40, 3) := by decide +kernel
theorem d_ND_moveLastTo_51 : decode b_ND_moveLastTo 51 = .ok (.iinc 3 1, 3) := by decide +kernel
theorem d_ND_moveLastTo_54 : decode b_ND_moveLastTo 54 = .ok (.goto (-52), 3) := by decide +kernel
theorem d_ND_moveLastTo_57 : decode b_ND_moveLastTo 57 = .ok (.return_, 1) := by decide +kernel
theorem d_LT_lowerOrQueue_0 : decode b_LT_lowerOrQueue 0 = .ok (.aload_n 1, 1) := by decide +kernel
theorem d_LT_lowerOrQueue_1 : decode b_LT_lowerOrQueue 1 = .ok (.getfield 198, 3) := by decide +kernel
theorem d_LT_lowerOrQueue_4 : decode b_LT_lowerOrQueue 4 = .ok (.aload_n 0, 1) := by decide +kernel
theorem d_LT_lowerOrQueue_5 : decode b_LT_lowerOrQueue 5 = .ok (.getfield 40, 3) := by decide +kernel
theorem d_LT_lowerOrQueue_8 : decode b_LT_lowerOrQueue 8 = .ok (.if_icmp .ne 30, 3) := by decide +kernel
theorem d_LT_lowerOrQueue_11 : decode b_LT_lowerOrQueue 11 = .ok (.aload_n 1, 1) := by decide +kernel
theorem d_LT_lowerOrQueue_12 : decode b_LT_lowerOrQueue 12 = .ok (.getfield 139, 3) := by decide +kernel
theorem d_LT_lowerOrQueue_15 : decode b_LT_lowerOrQueue 15 = .ok (.iconst (-1), 1) := by decide +kernel
theorem d_LT_lowerOrQueue_16 : decode b_LT_lowerOrQueue 16 = .ok (.if_icmp .ne 22, 3) := by decide +kernel
theorem d_LT_lowerOrQueue_19 : decode b_LT_lowerOrQueue 19 = .ok (.aload_n 0, 1) := by decide +kernel
theorem d_LT_lowerOrQueue_20 : decode b_LT_lowerOrQueue 20 = .ok (.aload_n 1, 1) := by decide +kernel
theorem d_LT_lowerOrQueue_21 : decode b_LT_lowerOrQueue 21 = .ok (.getfield 154, 3) := by decide +kernel
theorem d_LT_lowerOrQueue_24 : decode b_LT_lowerOrQueue 24 = .ok (.iconst 0, 1) := by decide +kernel
theorem d_LT_lowerOrQueue_25 : decode b_LT_lowerOrQueue 25 = .ok (.iaload, 1) := by decide +kernel
theorem d_LT_lowerOrQueue_26 : decode b_LT_lowerOrQueue 26 = .ok (.putfield 40, 3) := by decide +kernel
theorem d_LT_lowerOrQueue_29 : decode b_LT_lowerOrQueue 29 = .ok (.aload_n 0, 1) := by decide +kernel
theorem d_LT_lowerOrQueue_30 : decode b_LT_lowerOrQueue 30 = .ok (.aload_n 1, 1) := by decide +kernel
theorem d_LT_lowerOrQueue_31 : decode b_LT_lowerOrQueue 31 = .ok (.aload_n 2, 1) := by decide +kernel
theorem d_LT_lowerOrQueue_32 : decode b_LT_lowerOrQueue 32 = .ok (.invokevirtual 269, 3) := by decide +kernel
theorem d_LT_lowerOrQueue_35 : decode b_LT_lowerOrQueue 35 = .ok (.goto 14, 3) := by decide +kernel
theorem d_LT_lowerOrQueue_38 : decode b_LT_lowerOrQueue 38 = .ok (.aload_n 0, 1) := by decide +kernel
theorem d_LT_lowerOrQueue_39 : decode b_LT_lowerOrQueue 39 = .ok (.getfield 36, 3) := by decide +kernel
theorem d_LT_lowerOrQueue_42 : decode b_LT_lowerOrQueue 42 = .ok (.aload_n 1, 1) := by decide +kernel
theorem d_LT_lowerOrQueue_43 : decode b_LT_lowerOrQueue 43 = .ok (.getfield 198, 3) := by decide +kernel
theorem d_LT_lowerOrQueue_46 : decode b_LT_lowerOrQueue 46 = .ok (.invokevirtual 259, 3) := by decide +kernel
theorem d_LT_lowerOrQueue_49 : decode b_LT_lowerOrQueue 49 = .ok (.return_, 1) := by decide +kernel
theorem d_LT_post_0 : decode b_LT_post 0 = .ok (.aload_n 2, 1) := by decide +kernel
theorem d_LT_post_1 : decode b_LT_post 1 = .ok (.getfield 142, 3) := by decide +kernel
theorem d_LT_post_4 : decode b_LT_post 4 = .ok (.iconst 4, 1) := by decide +kernel
theorem d_LT_post_5 : decode b_LT_post 5 = .ok (.if_icmp .ge 22, 3) := by decide +kernel
theorem d_LT_post_8 : decode b_LT_post 8 = .ok (.aload_n 2, 1) := by decide +kernel
theorem d_LT_post_9 : decode b_LT_post 9 = .ok (.aload_n 1, 1) := by decide +kernel
theorem d_LT_post_10 : decode b_LT_post 10 = .ok (.getfield 72, 3) := by decide +kernel
theorem d_LT_post_13 : decode b_LT_post 13 = .ok (.aload_n 1, 1) := by decide +kernel
theorem d_LT_post_14 : decode b_LT_post 14 = .ok (.getfield 172, 3) := by decide +kernel
theorem d_LT_post_17 : decode b_LT_post 17 = .ok (.invokevirtual 250, 3) := by decide +kernel
theorem d_LT_post_20 : decode b_LT_post 20 = .ok (.aload_n 0, 1) := by decide +kernel
theorem d_LT_post_21 : decode b_LT_post 21 = .ok (.aload_n 1, 1) := by decide +kernel
theorem d_LT_post_22 : decode b_LT_post 22 = .ok (.iconst (-1), 1) := by decide +kernel
theorem d_LT_post_23 : decode b_LT_post 23 = .ok (.invokevirtual 175, 3) := by decide +kernel
theorem d_LT_post_26 : decode b_LT_post 26 = .ok (.ireturn, 1) := by decide +kernel
theorem d_LT_post_27 : decode b_LT_post 27 = .ok (.aload_n 0, 1) := by decide +kernel
theorem d_LT_post_28 : decode b_LT_post 28 = .ok (.invokevirtual 215, 3) := by decide +kernel
theorem d_LT_post_31 : decode b_LT_post 31 = .ok (.astore_n 3, 1) := by decide +kernel
theorem d_LT_post_32 : decode b_LT_post 32 = .ok (.aload_n 3, 1) := by decide +kernel
theorem d_LT_post_33 : decode b_LT_post 33 = .ok (.ifnonnull 10, 3) := by decide +kernel
theorem d_LT_post_36 : decode b_LT_post 36 = .ok (.aload_n 0, 1) := by decide +kernel
theorem d_LT_post_37 : decode b_LT_post 37 = .ok (.aload_n 1, 1) := by decide +kernel
theorem d_LT_post_38 : decode b_LT_post 38 = .ok (.iconst (-1), 1) := by decide +kernel
theorem d_LT_post_39 : decode b_LT_post 39 = .ok (.invokevirtual 175, 3) := by decide +kernel
theorem d_LT_post_42 : decode b_LT_post 42 = .ok (.ireturn, 1) := by decide +kernel
theorem d_LT_post_43 : decode b_LT_post 43 = .ok (.aload_n 2, 1) := by decide +kernel
theorem d_LT_post_44 : decode b_LT_post 44 = .ok (.aload_n 1, 1) := by decide +kernel
theorem d_LT_post_45 : decode b_LT_post 45 = .ok (.getfield 72, 3) := by decide +kernel
theorem d_LT_post_48 : decode b_LT_post 48 = .ok (.aload_n 1, 1) := by decide +kernel
theorem d_LT_post_49 : decode b_LT_post 49 = .ok (.getfield 172, 3) := by decide +kernel
theorem d_LT_post_52 : decode b_LT_post 52 = .ok (.invokevirtual 250, 3) := by decide +kernel
theorem d_LT_post_55 : decode b_LT_post 55 = .ok (.aload_n 0, 1) := by decide +kernel
theorem d_LT_post_56 : decode b_LT_post 56 = .ok (.aload_n 1, 1) := by decide +kernel
theorem d_LT_post_57 : decode b_LT_post 57 = .ok (.aload_n 2, 1) := by decide +kernel
theorem d_LT_post_58 : decode b_LT_post 58 = .ok (.aload_n 3, 1) := by decide +kernel
theorem d_LT_post_59 : decode b_LT_post 59 = .ok (.invokevirtual 246, 3) := by decide +kernel
theorem d_LT_post_62 : decode b_LT_post 62 = .ok (.iconst 0, 1) := by decide +kernel
theorem d_LT_post_63 : decode b_LT_post 63 = .ok (.ireturn, 1) := by decide +kernel
theorem d_ND_divideEntry_0 : decode b_ND_divideEntry 0 = .ok (.aload_n 0, 1) := by decide +kernel
theorem d_ND_divideEntry_1 : decode b_ND_divideEntry 1 = .ok (.iload_n 1, 1) := by decide +kernel
theorem d_ND_divideEntry_2 : decode b_ND_divideEntry 2 = .ok (.invokevirtual 43, 3) := by decide +kernel
theorem d_ND_divideEntry_5 : decode b_ND_divideEntry 5 = .ok (.istore_n 3, 1) := by decide +kernel
theorem d_ND_divideEntry_6 : decode b_ND_divideEntry 6 = .ok (.iload_n 3, 1) := by decide +kernel
theorem d_ND_divideEntry_7 : decode b_ND_divideEntry 7 = .ok (.aload_n 0, 1) := by decide +kernel
theorem d_ND_divideEntry_8 : decode b_ND_divideEntry 8 = .ok (.getfield 40, 3) := by decide +kernel
theorem d_ND_divideEntry_11 : decode b_ND_divideEntry 11 = .ok (.if_icmp .ge 36, 3) := by decide +kernel
theorem d_ND_divideEntry_14 : decode b_ND_divideEntry 14 = .ok (.aload_n 0, 1) := by decide +kernel
theorem d_ND_divideEntry_15 : decode b_ND_divideEntry 15 = .ok (.getfield 40, 3) := by decide +kernel
theorem d_ND_divideEntry_18 : decode b_ND_divideEntry 18 = .ok (.aload_n 0, 1) := by decide +kernel
theorem d_ND_divideEntry_19 : decode b_ND_divideEntry 19 = .ok (.getfield 9, 3) := by decide +kernel
theorem d_ND_divideEntry_22 : decode b_ND_divideEntry 22 = .ok (.arraylength, 1) := by decide +kernel
theorem d_ND_divideEntry_23 : decode b_ND_divideEntry 23 = .ok (.if_icmp .ge 24, 3) := by decide +kernel
theorem d_ND_divideEntry_26 : decode b_ND_divideEntry 26 = .ok (.aload_n 0, 1) := by decide +kernel
theorem d_ND_divideEntry_27 : decode b_ND_divideEntry 27 = .ok (.iload_n 3, 1) := by decide +kernel
theorem d_ND_divideEntry_28 : decode b_ND_divideEntry 28 = .ok (.iload_n 1, 1) := by decide +kernel
theorem d_ND_divideEntry_29 : decode b_ND_divideEntry 29 = .ok (.aload_n 0, 1) := by decide +kernel
theorem d_ND_divideEntry_30 : decode b_ND_divideEntry 30 = .ok (.getfield 15, 3) := by decide +kernel
theorem d_ND_divideEntry_33 : decode b_ND_divideEntry 33 = .ok (.iload_n 3, 1) := by decide +kernel
theorem d_ND_divideEntry_34 : decode b_ND_divideEntry 34 = .ok (.iaload, 1) := by decide +kernel
theorem d_ND_divideEntry_35 : decode b_ND_divideEntry 35 = .ok (.invokevirtual 51, 3) := by decide +kernel
theorem d_ND_divideEntry_38 : decode b_ND_divideEntry 38 = .ok (.aload_n 0, 1) := by decide +kernel
theorem d_ND_divideEntry_39 : decode b_ND_divideEntry 39 = .ok (.getfield 15, 3) := by decide +kernel
theorem d_ND_divideEntry_42 : decode b_ND_divideEntry 42 = .ok (.iload_n 3, 1) := by decide +kernel
theorem d_ND_divideEntry_43 : decode b_ND_divideEntry 43 = .ok (.iconst 1, 1) := by decide +kernel
theorem d_ND_divideEntry_44 : decode b_ND_divideEntry 44 = .ok (.iadd, 1) := by decide +kernel
theorem d_ND_divideEntry_45 : decode b_ND_divideEntry 45 = .ok (.iload_n 2, 1) := by decide +kernel
theorem d_ND_divideEntry_46 : decode b_ND_divideEntry 46 = .ok (.iastore, 1) := by decide +kernel
theorem d_ND_divideEntry_47 : decode b_ND_divideEntry 47 = .ok (.return_, 1) := by decide +kernel
theorem d_LT_answer_0 : decode b_LT_answer 0 = .ok (.iload_n 1, 1) := by decide +kernel
theorem d_LT_answer_1 : decode b_LT_answer 1 = .ok (.invokestatic 47, 3) := by decide +kernel
theorem d_LT_answer_4 : decode b_LT_answer 4 = .ok (.ifCond .ne 13, 3) := by decide +kernel
theorem d_LT_answer_7 : decode b_LT_answer 7 = .ok (.new 51, 3) := by decide +kernel
theorem d_LT_answer_10 : decode b_LT_answer 10 = .ok (.dup, 1) := by decide +kernel
theorem d_LT_answer_11 : decode b_LT_answer 11 = .ok (.ldc 88, 2) := by decide +kernel
theorem d_LT_answer_13 : decode b_LT_answer 13 = .ok (.invokespecial 55, 3) := by decide +kernel
theorem d_LT_answer_16 : decode b_LT_answer 16 = .ok (.athrow, 1) := by decide +kernel
theorem d_LT_answer_17 : decode b_LT_answer 17 = .ok (.aload_n 0, 1) := by decide +kernel
theorem d_LT_answer_18 : decode b_LT_answer 18 = .ok (.getfield 28, 3) := by decide +kernel
theorem d_LT_answer_21 : decode b_LT_answer 21 = .ok (.iload_n 1, 1) := by decide +kernel
theorem d_LT_answer_22 : decode b_LT_answer 22 = .ok (.aaload, 1) := by decide +kernel
theorem d_LT_answer_23 : decode b_LT_answer 23 = .ok (.astore_n 2, 1) := by decide +kernel
theorem d_LT_answer_24 : decode b_LT_answer 24 = .ok (.aload_n 2, 1) := by decide +kernel
theorem d_LT_answer_25 : decode b_LT_answer 25 = .ok (.getfield 102, 3) := by decide +kernel
theorem d_LT_answer_28 : decode b_LT_answer 28 = .ok (.ifCond .ne 13, 3) := by decide +kernel
theorem d_LT_answer_31 : decode b_LT_answer 31 = .ok (.new 105, 3) := by decide +kernel
theorem d_LT_answer_34 : decode b_LT_answer 34 = .ok (.dup, 1) := by decide +kernel
theorem d_LT_answer_35 : decode b_LT_answer 35 = .ok (.ldc 107, 2) := by decide +kernel
theorem d_LT_answer_37 : decode b_LT_answer 37 = .ok (.invokespecial 109, 3) := by decide +kernel
theorem d_LT_answer_40 : decode b_LT_answer 40 = .ok (.athrow, 1) := by decide +kernel
theorem d_LT_answer_41 : decode b_LT_answer 41 = .ok (.aload_n 2, 1) := by decide +kernel
theorem d_LT_answer_42 : decode b_LT_answer 42 = .ok (.getfield 110, 3) := by decide +kernel
theorem d_LT_answer_45 : decode b_LT_answer 45 = .ok (.ireturn, 1) := by decide +kernel
theorem d_LT_look_0 : decode b_LT_look 0 = .ok (.iload_n 1, 1) := by decide +kernel
theorem d_LT_look_1 : decode b_LT_look 1 = .ok (.invokestatic 47, 3) := by decide +kernel
theorem d_LT_look_4 : decode b_LT_look 4 = .ok (.ifCond .eq 13, 3) := by decide +kernel
theorem d_LT_look_7 : decode b_LT_look 7 = .ok (.iload_n 2, 1) := by decide +kernel
theorem d_LT_look_8 : decode b_LT_look 8 = .ok (.ifCond .lt 9, 3) := by decide +kernel
theorem d_LT_look_11 : decode b_LT_look 11 = .ok (.iload_n 2, 1) := by decide +kernel
theorem d_LT_look_12 : decode b_LT_look 12 = .ok (.bipush 8, 2) := by decide +kernel
theorem d_LT_look_14 : decode b_LT_look 14 = .ok (.if_icmp .le 13, 3) := by decide +kernel
theorem d_LT_look_17 : decode b_LT_look 17 = .ok (.new 51, 3) := by decide +kernel
theorem d_LT_look_20 : decode b_LT_look 20 = .ok (.dup, 1) := by decide +kernel
theorem d_LT_look_21 : decode b_LT_look 21 = .ok (.ldc 113, 2) := by decide +kernel
theorem d_LT_look_23 : decode b_LT_look 23 = .ok (.invokespecial 55, 3) := by decide +kernel
theorem d_LT_look_26 : decode b_LT_look 26 = .ok (.athrow, 1) := by decide +kernel
theorem d_LT_look_27 : decode b_LT_look 27 = .ok (.aload_n 0, 1) := by decide +kernel
theorem d_LT_look_28 : decode b_LT_look 28 = .ok (.getfield 28, 3) := by decide +kernel
theorem d_LT_look_31 : decode b_LT_look 31 = .ok (.iload_n 1, 1) := by decide +kernel
theorem d_LT_look_32 : decode b_LT_look 32 = .ok (.aaload, 1) := by decide +kernel
theorem d_LT_look_33 : decode b_LT_look 33 = .ok (.astore_n 3, 1) := by decide +kernel
theorem d_LT_look_34 : decode b_LT_look 34 = .ok (.aload_n 3, 1) := by decide +kernel
theorem d_LT_look_35 : decode b_LT_look 35 = .ok (.getfield 60, 3) := by decide +kernel
theorem d_LT_look_38 : decode b_LT_look 38 = .ok (.ifCond .eq 15, 3) := by decide +kernel
theorem d_LT_look_41 : decode b_LT_look 41 = .ok (.iload_n 2, 1) := by decide +kernel
theorem d_LT_look_42 : decode b_LT_look 42 = .ok (.iconst 1, 1) := by decide +kernel
theorem d_LT_look_43 : decode b_LT_look 43 = .ok (.if_icmp .lt 10, 3) := by decide +kernel
theorem d_LT_look_46 : decode b_LT_look 46 = .ok (.iload_n 2, 1) := by decide +kernel
theorem d_LT_look_47 : decode b_LT_look 47 = .ok (.iconst 4, 1) := by decide +kernel
theorem d_LT_look_48 : decode b_LT_look 48 = .ok (.if_icmp .gt 5, 3) := by decide +kernel
theorem d_LT_look_51 : decode b_LT_look 51 = .ok (.iconst (-1), 1) := by decide +kernel
theorem d_LT_look_52 : decode b_LT_look 52 = .ok (.ireturn, 1) := by decide +kernel
theorem d_LT_look_53 : decode b_LT_look 53 = .ok (.iload_n 2, 1) := by decide +kernel
theorem d_LT_look_54 : decode b_LT_look 54 = .ok (.tableswitch 94 0 7 #[46, 59, 64, 69, 74, 79, 84, 89], 46) := by decide +kernel
theorem d_LT_look_100 : decode b_LT_look 100 = .ok (.aload_n 3, 1) := by decide +kernel
theorem d_LT_look_101 : decode b_LT_look 101 = .ok (.getfield 60, 3) := by decide +kernel
theorem d_LT_look_104 : decode b_LT_look 104 = .ok (.ifCond .eq 7, 3) := by decide +kernel
theorem d_LT_look_107 : decode b_LT_look 107 = .ok (.iconst 1, 1) := by decide +kernel
theorem d_LT_look_108 : decode b_LT_look 108 = .ok (.goto 4, 3) := by decide +kernel
theorem d_LT_look_111 : decode b_LT_look 111 = .ok (.iconst 0, 1) := by decide +kernel
theorem d_LT_look_112 : decode b_LT_look 112 = .ok (.ireturn, 1) := by decide +kernel
theorem d_LT_look_113 : decode b_LT_look 113 = .ok (.aload_n 3, 1) := by decide +kernel
theorem d_LT_look_114 : decode b_LT_look 114 = .ok (.getfield 115, 3) := by decide +kernel
theorem d_LT_look_117 : decode b_LT_look 117 = .ok (.ireturn, 1) := by decide +kernel
theorem d_LT_look_118 : decode b_LT_look 118 = .ok (.aload_n 3, 1) := by decide +kernel
theorem d_LT_look_119 : decode b_LT_look 119 = .ok (.getfield 118, 3) := by decide +kernel
theorem d_LT_look_122 : decode b_LT_look 122 = .ok (.ireturn, 1) := by decide +kernel
theorem d_LT_look_123 : decode b_LT_look 123 = .ok (.aload_n 3, 1) := by decide +kernel
theorem d_LT_look_124 : decode b_LT_look 124 = .ok (.getfield 72, 3) := by decide +kernel
theorem d_LT_look_127 : decode b_LT_look 127 = .ok (.ireturn, 1) := by decide +kernel
theorem d_LT_look_128 : decode b_LT_look 128 = .ok (.aload_n 3, 1) := by decide +kernel
theorem d_LT_look_129 : decode b_LT_look 129 = .ok (.getfield 78, 3) := by decide +kernel
theorem d_LT_look_132 : decode b_LT_look 132 = .ok (.ireturn, 1) := by decide +kernel
theorem d_LT_look_133 : decode b_LT_look 133 = .ok (.aload_n 3, 1) := by decide +kernel
theorem d_LT_look_134 : decode b_LT_look 134 = .ok (.getfield 96, 3) := by decide +kernel
theorem d_LT_look_137 : decode b_LT_look 137 = .ok (.ireturn, 1) := by decide +kernel
theorem d_LT_look_138 : decode b_LT_look 138 = .ok (.aload_n 3, 1) := by decide +kernel
theorem d_LT_look_139 : decode b_LT_look 139 = .ok (.getfield 99, 3) := by decide +kernel
theorem d_LT_look_142 : decode b_LT_look 142 = .ok (.ireturn, 1) := by decide +kernel
theorem d_LT_look_143 : decode b_LT_look 143 = .ok (.aload_n 3, 1) := by decide +kernel
theorem d_LT_look_144 : decode b_LT_look 144 = .ok (.getfield 121, 3) := by decide +kernel
theorem d_LT_look_147 : decode b_LT_look 147 = .ok (.ireturn, 1) := by decide +kernel
theorem d_LT_look_148 : decode b_LT_look 148 = .ok (.aload_n 3, 1) := by decide +kernel
theorem d_LT_look_149 : decode b_LT_look 149 = .ok (.getfield 124, 3) := by decide +kernel
theorem d_LT_look_152 : decode b_LT_look 152 = .ok (.ireturn, 1) := by decide +kernel
theorem d_LT_page_0 : decode b_LT_page 0 = .ok (.iload_n 1, 1) := by decide +kernel
theorem d_LT_page_1 : decode b_LT_page 1 = .ok (.invokestatic 127, 3) := by decide +kernel
theorem d_LT_page_4 : decode b_LT_page 4 = .ok (.ifCond .eq 13, 3) := by decide +kernel
theorem d_LT_page_7 : decode b_LT_page 7 = .ok (.iload_n 2, 1) := by decide +kernel
theorem d_LT_page_8 : decode b_LT_page 8 = .ok (.ifCond .lt 9, 3) := by decide +kernel
theorem d_LT_page_11 : decode b_LT_page 11 = .ok (.iload_n 2, 1) := by decide +kernel
theorem d_LT_page_12 : decode b_LT_page 12 = .ok (.bipush 6, 2) := by decide +kernel
theorem d_LT_page_14 : decode b_LT_page 14 = .ok (.if_icmp .le 13, 3) := by decide +kernel
theorem d_LT_page_17 : decode b_LT_page 17 = .ok (.new 51, 3) := by decide +kernel
theorem d_LT_page_20 : decode b_LT_page 20 = .ok (.dup, 1) := by decide +kernel
theorem d_LT_page_21 : decode b_LT_page 21 = .ok (.ldc 130, 2) := by decide +kernel
theorem d_LT_page_23 : decode b_LT_page 23 = .ok (.invokespecial 55, 3) := by decide +kernel
theorem d_LT_page_26 : decode b_LT_page 26 = .ok (.athrow, 1) := by decide +kernel
theorem d_LT_page_27 : decode b_LT_page 27 = .ok (.aload_n 0, 1) := by decide +kernel
theorem d_LT_page_28 : decode b_LT_page 28 = .ok (.getfield 11, 3) := by decide +kernel
theorem d_LT_page_31 : decode b_LT_page 31 = .ok (.iload_n 1, 1) := by decide +kernel
theorem d_LT_page_32 : decode b_LT_page 32 = .ok (.aaload, 1) := by decide +kernel
theorem d_LT_page_33 : decode b_LT_page 33 = .ok (.astore_n 3, 1) := by decide +kernel
theorem d_LT_page_34 : decode b_LT_page 34 = .ok (.iload_n 2, 1) := by decide +kernel
theorem d_LT_page_35 : decode b_LT_page 35 = .ok (.ifCond .le 14, 3) := by decide +kernel
theorem d_LT_page_38 : decode b_LT_page 38 = .ok (.aload_n 3, 1) := by decide +kernel
theorem d_LT_page_39 : decode b_LT_page 39 = .ok (.getfield 22, 3) := by decide +kernel
theorem d_LT_page_42 : decode b_LT_page 42 = .ok (.iconst 1, 1) := by decide +kernel
theorem d_LT_page_43 : decode b_LT_page 43 = .ok (.if_icmp .eq 6, 3) := by decide +kernel
theorem d_LT_page_46 : decode b_LT_page 46 = .ok (.bipush (-2), 2) := by decide +kernel
theorem d_LT_page_48 : decode b_LT_page 48 = .ok (.ireturn, 1) := by decide +kernel
theorem d_LT_page_49 : decode b_LT_page 49 = .ok (.iload_n 2, 1) := by decide +kernel
theorem d_LT_page_50 : decode b_LT_page 50 = .ok (.tableswitch 68 0 5 #[38, 43, 48, 53, 58, 63], 38) := by decide +kernel
theorem d_LT_page_88 : decode b_LT_page 88 = .ok (.aload_n 3, 1) := by decide +kernel
theorem d_LT_page_89 : decode b_LT_page 89 = .ok (.getfield 22, 3) := by decide +kernel
theorem d_LT_page_92 : decode b_LT_page 92 = .ok (.ireturn, 1) := by decide +kernel
theorem d_LT_page_93 : decode b_LT_page 93 = .ok (.aload_n 3, 1) := by decide +kernel
theorem d_LT_page_94 : decode b_LT_page 94 = .ok (.getfield 132, 3) := by decide +kernel
theorem d_LT_page_97 : decode b_LT_page 97 = .ok (.ireturn, 1) := by decide +kernel
theorem d_LT_page_98 : decode b_LT_page 98 = .ok (.aload_n 3, 1) := by decide +kernel
theorem d_LT_page_99 : decode b_LT_page 99 = .ok (.getfield 133, 3) := by decide +kernel
theorem d_LT_page_102 : decode b_LT_page 102 = .ok (.ireturn, 1) := by decide +kernel
theorem d_LT_page_103 : decode b_LT_page 103 = .ok (.aload_n 3, 1) := by decide +kernel
theorem d_LT_page_104 : decode b_LT_page 104 = .ok (.getfield 136, 3) := by decide +kernel
theorem d_LT_page_107 : decode b_LT_page 107 = .ok (.ireturn, 1) := by decide +kernel
theorem d_LT_page_108 : decode b_LT_page 108 = .ok (.aload_n 3, 1) := by decide +kernel
theorem d_LT_page_109 : decode b_LT_page 109 = .ok (.getfield 139, 3) := by decide +kernel
theorem d_LT_page_112 : decode b_LT_page 112 = .ok (.ireturn, 1) := by decide +kernel
theorem d_LT_page_113 : decode b_LT_page 113 = .ok (.aload_n 3, 1) := by decide +kernel
theorem d_LT_page_114 : decode b_LT_page 114 = .ok (.getfield 142, 3) := by decide +kernel
theorem d_LT_page_117 : decode b_LT_page 117 = .ok (.ireturn, 1) := by decide +kernel
theorem d_LT_page_118 : decode b_LT_page 118 = .ok (.aload_n 3, 1) := by decide +kernel
theorem d_LT_page_119 : decode b_LT_page 119 = .ok (.getfield 145, 3) := by decide +kernel
theorem d_LT_page_122 : decode b_LT_page 122 = .ok (.ireturn, 1) := by decide +kernel
theorem d_LT_entry_0 : decode b_LT_entry 0 = .ok (.aload_n 0, 1) := by decide +kernel
theorem d_LT_entry_1 : decode b_LT_entry 1 = .ok (.iload_n 1, 1) := by decide +kernel
theorem d_LT_entry_2 : decode b_LT_entry 2 = .ok (.invokevirtual 148, 3) := by decide +kernel
theorem d_LT_entry_5 : decode b_LT_entry 5 = .ok (.astore 4, 2) := by decide +kernel
theorem d_LT_entry_7 : decode b_LT_entry 7 = .ok (.aload 4, 2) := by decide +kernel
theorem d_LT_entry_9 : decode b_LT_entry 9 = .ok (.getfield 22, 3) := by decide +kernel
theorem d_LT_entry_12 : decode b_LT_entry 12 = .ok (.iconst 1, 1) := by decide +kernel
theorem d_LT_entry_13 : decode b_LT_entry 13 = .ok (.if_icmp .ne 16, 3) := by decide +kernel
theorem d_LT_entry_16 : decode b_LT_entry 16 = .ok (.iload_n 2, 1) := by decide +kernel
theorem d_LT_entry_17 : decode b_LT_entry 17 = .ok (.ifCond .lt 12, 3) := by decide +kernel
theorem d_LT_entry_20 : decode b_LT_entry 20 = .ok (.iload_n 2, 1) := by decide +kernel
theorem d_LT_entry_21 : decode b_LT_entry 21 = .ok (.aload 4, 2) := by decide +kernel
theorem d_LT_entry_23 : decode b_LT_entry 23 = .ok (.getfield 142, 3) := by decide +kernel
theorem d_LT_entry_26 : decode b_LT_entry 26 = .ok (.if_icmp .lt 13, 3) := by decide +kernel
theorem d_LT_entry_29 : decode b_LT_entry 29 = .ok (.new 105, 3) := by decide +kernel
theorem d_LT_entry_32 : decode b_LT_entry 32 = .ok (.dup, 1) := by decide +kernel
theorem d_LT_entry_33 : decode b_LT_entry 33 = .ok (.ldc 152, 2) := by decide +kernel
theorem d_LT_entry_35 : decode b_LT_entry 35 = .ok (.invokespecial 109, 3) := by decide +kernel
theorem d_LT_entry_38 : decode b_LT_entry 38 = .ok (.athrow, 1) := by decide +kernel
theorem d_LT_entry_39 : decode b_LT_entry 39 = .ok (.iload_n 3, 1) := by decide +kernel
theorem d_LT_entry_40 : decode b_LT_entry 40 = .ok (.ifCond .eq 13, 3) := by decide +kernel
theorem d_LT_entry_43 : decode b_LT_entry 43 = .ok (.aload 4, 2) := by decide +kernel
theorem d_LT_entry_45 : decode b_LT_entry 45 = .ok (.getfield 154, 3) := by decide +kernel
theorem d_LT_entry_48 : decode b_LT_entry 48 = .ok (.iload_n 2, 1) := by decide +kernel
theorem d_LT_entry_49 : decode b_LT_entry 49 = .ok (.iaload, 1) := by decide +kernel
theorem d_LT_entry_50 : decode b_LT_entry 50 = .ok (.goto 10, 3) := by decide +kernel
theorem d_LT_entry_53 : decode b_LT_entry 53 = .ok (.aload 4, 2) := by decide +kernel
theorem d_LT_entry_55 : decode b_LT_entry 55 = .ok (.getfield 158, 3) := by decide +kernel
theorem d_LT_entry_58 : decode b_LT_entry 58 = .ok (.iload_n 2, 1) := by decide +kernel
theorem d_LT_entry_59 : decode b_LT_entry 59 = .ok (.iaload, 1) := by decide +kernel
theorem d_LT_entry_60 : decode b_LT_entry 60 = .ok (.ireturn, 1) := by decide +kernel
theorem d_LT_under_0 : decode b_LT_under 0 = .ok (.aload_n 0, 1) := by decide +kernel
theorem d_LT_under_1 : decode b_LT_under 1 = .ok (.iload_n 1, 1) := by decide +kernel
theorem d_LT_under_2 : decode b_LT_under 2 = .ok (.invokevirtual 148, 3) := by decide +kernel
theorem d_LT_under_5 : decode b_LT_under 5 = .ok (.astore_n 2, 1) := by decide +kernel
theorem d_LT_under_6 : decode b_LT_under 6 = .ok (.aload_n 2, 1) := by decide +kernel
theorem d_LT_under_7 : decode b_LT_under 7 = .ok (.getfield 22, 3) := by decide +kernel
theorem d_LT_under_10 : decode b_LT_under 10 = .ok (.iconst 1, 1) := by decide +kernel
theorem d_LT_under_11 : decode b_LT_under 11 = .ok (.if_icmp .eq 13, 3) := by decide +kernel
theorem d_LT_under_14 : decode b_LT_under 14 = .ok (.new 105, 3) := by decide +kernel
theorem d_LT_under_17 : decode b_LT_under 17 = .ok (.dup, 1) := by decide +kernel
theorem d_LT_under_18 : decode b_LT_under 18 = .ok (.ldc 162, 2) := by decide +kernel
theorem d_LT_under_20 : decode b_LT_under 20 = .ok (.invokespecial 109, 3) := by decide +kernel
theorem d_LT_under_23 : decode b_LT_under 23 = .ok (.athrow, 1) := by decide +kernel
theorem d_LT_under_24 : decode b_LT_under 24 = .ok (.aload_n 0, 1) := by decide +kernel
theorem d_LT_under_25 : decode b_LT_under 25 = .ok (.aload_n 2, 1) := by decide +kernel
theorem d_LT_under_26 : decode b_LT_under 26 = .ok (.iconst 0, 1) := by decide +kernel
theorem d_LT_under_27 : decode b_LT_under 27 = .ok (.invokevirtual 164, 3) := by decide +kernel
theorem d_LT_under_30 : decode b_LT_under 30 = .ok (.ireturn, 1) := by decide +kernel
theorem d_LT_leafEntries_0 : decode b_LT_leafEntries 0 = .ok (.aload_n 1, 1) := by decide +kernel
theorem d_LT_leafEntries_1 : decode b_LT_leafEntries 1 = .ok (.getfield 22, 3) := by decide +kernel
theorem d_LT_leafEntries_4 : decode b_LT_leafEntries 4 = .ok (.iconst 1, 1) := by decide +kernel
theorem d_LT_leafEntries_5 : decode b_LT_leafEntries 5 = .ok (.if_icmp .ne 9, 3) := by decide +kernel
theorem d_LT_leafEntries_8 : decode b_LT_leafEntries 8 = .ok (.iload_n 2, 1) := by decide +kernel
theorem d_LT_leafEntries_9 : decode b_LT_leafEntries 9 = .ok (.bipush 24, 2) := by decide +kernel
theorem d_LT_leafEntries_11 : decode b_LT_leafEntries 11 = .ok (.if_icmp .le 5, 3) := by decide +kernel
theorem d_LT_leafEntries_14 : decode b_LT_leafEntries 14 = .ok (.iconst 0, 1) := by decide +kernel
theorem d_LT_leafEntries_15 : decode b_LT_leafEntries 15 = .ok (.ireturn, 1) := by decide +kernel
theorem d_LT_leafEntries_16 : decode b_LT_leafEntries 16 = .ok (.aload_n 1, 1) := by decide +kernel
theorem d_LT_leafEntries_17 : decode b_LT_leafEntries 17 = .ok (.getfield 132, 3) := by decide +kernel
theorem d_LT_leafEntries_20 : decode b_LT_leafEntries 20 = .ok (.ifCond .ne 8, 3) := by decide +kernel
theorem d_LT_leafEntries_23 : decode b_LT_leafEntries 23 = .ok (.aload_n 1, 1) := by decide +kernel
theorem d_LT_leafEntries_24 : decode b_LT_leafEntries 24 = .ok (.getfield 142, 3) := by decide +kernel
theorem d_LT_leafEntries_27 : decode b_LT_leafEntries 27 = .ok (.ireturn, 1) := by decide +kernel
theorem d_LT_leafEntries_28 : decode b_LT_leafEntries 28 = .ok (.iconst 0, 1) := by decide +kernel
theorem d_LT_leafEntries_29 : decode b_LT_leafEntries 29 = .ok (.istore_n 3, 1) := by decide +kernel
theorem d_LT_leafEntries_30 : decode b_LT_leafEntries 30 = .ok (.iconst 0, 1) := by decide +kernel
theorem d_LT_leafEntries_31 : decode b_LT_leafEntries 31 = .ok (.istore 4, 2) := by decide +kernel
theorem d_LT_leafEntries_33 : decode b_LT_leafEntries 33 = .ok (.iload 4, 2) := by decide +kernel
theorem d_LT_leafEntries_35 : decode b_LT_leafEntries 35 = .ok (.aload_n 1, 1) := by decide +kernel
theorem d_LT_leafEntries_36 : decode b_LT_leafEntries 36 = .ok (.getfield 142, 3) := by decide +kernel
theorem d_LT_leafEntries_39 : decode b_LT_leafEntries 39 = .ok (.if_icmp .ge 30, 3) := by decide +kernel
theorem d_LT_leafEntries_42 : decode b_LT_leafEntries 42 = .ok (.iload_n 3, 1) := by decide +kernel
theorem d_LT_leafEntries_43 : decode b_LT_leafEntries 43 = .ok (.aload_n 0, 1) := by decide +kernel
theorem d_LT_leafEntries_44 : decode b_LT_leafEntries 44 = .ok (.aload_n 0, 1) := by decide +kernel
theorem d_LT_leafEntries_45 : decode b_LT_leafEntries 45 = .ok (.aload_n 1, 1) := by decide +kernel
theorem d_LT_leafEntries_46 : decode b_LT_leafEntries 46 = .ok (.getfield 154, 3) := by decide +kernel
theorem d_LT_leafEntries_49 : decode b_LT_leafEntries 49 = .ok (.iload 4, 2) := by decide +kernel
theorem d_LT_leafEntries_51 : decode b_LT_leafEntries 51 = .ok (.iaload, 1) := by decide +kernel
theorem d_LT_leafEntries_52 : decode b_LT_leafEntries 52 = .ok (.invokevirtual 148, 3) := by decide +kernel
theorem d_LT_leafEntries_55 : decode b_LT_leafEntries 55 = .ok (.iload_n 2, 1) := by decide +kernel
theorem d_LT_leafEntries_56 : decode b_LT_leafEntries 56 = .ok (.iconst 1, 1) := by decide +kernel
theorem d_LT_leafEntries_57 : decode b_LT_leafEntries 57 = .ok (.iadd, 1) := by decide +kernel
theorem d_LT_leafEntries_58 : decode b_LT_leafEntries 58 = .ok (.invokevirtual 164, 3) := by decide +kernel
theorem d_LT_leafEntries_61 : decode b_LT_leafEntries 61 = .ok (.iadd, 1) := by decide +kernel
theorem d_LT_leafEntries_62 : decode b_LT_leafEntries 62 = .ok (.istore_n 3, 1) := by decide +kernel
theorem d_LT_leafEntries_63 : decode b_LT_leafEntries 63 = .ok (.iinc 4 1, 3) := by decide +kernel
theorem d_LT_leafEntries_66 : decode b_LT_leafEntries 66 = .ok (.goto (-33), 3) := by decide +kernel
theorem d_LT_leafEntries_69 : decode b_LT_leafEntries 69 = .ok (.iload_n 3, 1) := by decide +kernel
theorem d_LT_leafEntries_70 : decode b_LT_leafEntries 70 = .ok (.ireturn, 1) := by decide +kernel
end
section
theorem d_LW_begin_0 : decode b_LW_begin 0 = .ok (.aload_n 0, 1) := by decide +kernel
theorem d_LW_begin_1 : decode b_LW_begin 1 = .ok (.iload_n 1, 1) := by decide +kernel
theorem d_LW_begin_2 : decode b_LW_begin 2 = .ok (.iload_n 2, 1) := by decide +kernel
theorem d_LW_begin_3 : decode b_LW_begin 3 = .ok (.iload_n 3, 1) := by decide +kernel
theorem d_LW_begin_4 : decode b_LW_begin 4 = .ok (.iload 4, 2) := by decide +kernel
theorem d_LW_begin_6 : decode b_LW_begin 6 = .ok (.invokevirtual 7, 3) := by decide +kernel
theorem d_LW_begin_9 : decode b_LW_begin 9 = .ok (.goto 11, 3) := by decide +kernel
theorem d_LW_begin_12 : decode b_LW_begin 12 = .ok (.astore 5, 2) := by decide +kernel
theorem d_LW_begin_14 : decode b_LW_begin 14 = .ok (.iconst 1, 1) := by decide +kernel
theorem d_LW_begin_15 : decode b_LW_begin 15 = .ok (.ireturn, 1) := by decide +kernel
theorem d_LW_begin_16 : decode b_LW_begin 16 = .ok (.astore 5, 2) := by decide +kernel
theorem d_LW_begin_18 : decode b_LW_begin 18 = .ok (.iconst 2, 1) := by decide +kernel
theorem d_LW_begin_19 : decode b_LW_begin 19 = .ok (.ireturn, 1) := by decide +kernel
theorem d_LW_begin_20 : decode b_LW_begin 20 = .ok (.iconst 0, 1) := by decide +kernel
theorem d_LW_begin_21 : decode b_LW_begin 21 = .ok (.ireturn, 1) := by decide +kernel
theorem d_LW_step_0 : decode b_LW_step 0 = .ok (.aload_n 2, 1) := by decide +kernel
theorem d_LW_step_1 : decode b_LW_step 1 = .ok (.iconst 0, 1) := by decide +kernel
theorem d_LW_step_2 : decode b_LW_step 2 = .ok (.aload_n 0, 1) := by decide +kernel
theorem d_LW_step_3 : decode b_LW_step 3 = .ok (.iload_n 1, 1) := by decide +kernel
theorem d_LW_step_4 : decode b_LW_step 4 = .ok (.invokevirtual 17, 3) := by decide +kernel
theorem d_LW_step_7 : decode b_LW_step 7 = .ok (.i2l, 1) := by decide +kernel
theorem d_LW_step_8 : decode b_LW_step 8 = .ok (.lastore, 1) := by decide +kernel
theorem d_LW_step_9 : decode b_LW_step 9 = .ok (.goto 9, 3) := by decide +kernel
theorem d_LW_step_12 : decode b_LW_step 12 = .ok (.astore_n 3, 1) := by decide +kernel
theorem d_LW_step_13 : decode b_LW_step 13 = .ok (.iconst 1, 1) := by decide +kernel
theorem d_LW_step_14 : decode b_LW_step 14 = .ok (.ireturn, 1) := by decide +kernel
theorem d_LW_step_15 : decode b_LW_step 15 = .ok (.astore_n 3, 1) := by decide +kernel
theorem d_LW_step_16 : decode b_LW_step 16 = .ok (.iconst 2, 1) := by decide +kernel
theorem d_LW_step_17 : decode b_LW_step 17 = .ok (.ireturn, 1) := by decide +kernel
theorem d_LW_step_18 : decode b_LW_step 18 = .ok (.iconst 0, 1) := by decide +kernel
theorem d_LW_step_19 : decode b_LW_step 19 = .ok (.ireturn, 1) := by decide +kernel
theorem d_LW_answer_0 : decode b_LW_answer 0 = .ok (.aload_n 2, 1) := by decide +kernel
theorem d_LW_answer_1 : decode b_LW_answer 1 = .ok (.iconst 0, 1) := by decide +kernel
theorem d_LW_answer_2 : decode b_LW_answer 2 = .ok (.aload_n 0, 1) := by decide +kernel
theorem d_LW_answer_3 : decode b_LW_answer 3 = .ok (.iload_n 1, 1) := by decide +kernel
theorem d_LW_answer_4 : decode b_LW_answer 4 = .ok (.invokevirtual 21, 3) := by decide +kernel
theorem d_LW_answer_7 : decode b_LW_answer 7 = .ok (.i2l, 1) := by decide +kernel
theorem d_LW_answer_8 : decode b_LW_answer 8 = .ok (.lastore, 1) := by decide +kernel
theorem d_LW_answer_9 : decode b_LW_answer 9 = .ok (.goto 9, 3) := by decide +kernel
theorem d_LW_answer_12 : decode b_LW_answer 12 = .ok (.astore_n 3, 1) := by decide +kernel
theorem d_LW_answer_13 : decode b_LW_answer 13 = .ok (.iconst 1, 1) := by decide +kernel
theorem d_LW_answer_14 : decode b_LW_answer 14 = .ok (.ireturn, 1) := by decide +kernel
theorem d_LW_answer_15 : decode b_LW_answer 15 = .ok (.astore_n 3, 1) := by decide +kernel
theorem d_LW_answer_16 : decode b_LW_answer 16 = .ok (.iconst 2, 1) := by decide +kernel
theorem d_LW_answer_17 : decode b_LW_answer 17 = .ok (.ireturn, 1) := by decide +kernel
theorem d_LW_answer_18 : decode b_LW_answer 18 = .ok (.iconst 0, 1) := by decide +kernel
theorem d_LW_answer_19 : decode b_LW_answer 19 = .ok (.ireturn, 1) := by decide +kernel
theorem d_LW_look_0 : decode b_LW_look 0 = .ok (.aload_n 3, 1) := by decide +kernel
theorem d_LW_look_1 : decode b_LW_look 1 = .ok (.iconst 0, 1) := by decide +kernel
theorem d_LW_look_2 : decode b_LW_look 2 = .ok (.aload_n 0, 1) := by decide +kernel
theorem d_LW_look_3 : decode b_LW_look 3 = .ok (.iload_n 1, 1) := by decide +kernel
theorem d_LW_look_4 : decode b_LW_look 4 = .ok (.iload_n 2, 1) := by decide +kernel
theorem d_LW_look_5 : decode b_LW_look 5 = .ok (.invokevirtual 26, 3) := by decide +kernel
theorem d_LW_look_8 : decode b_LW_look 8 = .ok (.i2l, 1) := by decide +kernel
theorem d_LW_look_9 : decode b_LW_look 9 = .ok (.lastore, 1) := by decide +kernel
theorem d_LW_look_10 : decode b_LW_look 10 = .ok (.goto 7, 3) := by decide +kernel
theorem d_LW_look_13 : decode b_LW_look 13 = .ok (.astore 4, 2) := by decide +kernel
theorem d_LW_look_15 : decode b_LW_look 15 = .ok (.iconst 1, 1) := by decide +kernel
theorem d_LW_look_16 : decode b_LW_look 16 = .ok (.ireturn, 1) := by decide +kernel
theorem d_LW_look_17 : decode b_LW_look 17 = .ok (.iconst 0, 1) := by decide +kernel
theorem d_LW_look_18 : decode b_LW_look 18 = .ok (.ireturn, 1) := by decide +kernel
theorem d_LW_page_0 : decode b_LW_page 0 = .ok (.aload_n 3, 1) := by decide +kernel
theorem d_LW_page_1 : decode b_LW_page 1 = .ok (.iconst 0, 1) := by decide +kernel
theorem d_LW_page_2 : decode b_LW_page 2 = .ok (.aload_n 0, 1) := by decide +kernel
theorem d_LW_page_3 : decode b_LW_page 3 = .ok (.iload_n 1, 1) := by decide +kernel
theorem d_LW_page_4 : decode b_LW_page 4 = .ok (.iload_n 2, 1) := by decide +kernel
theorem d_LW_page_5 : decode b_LW_page 5 = .ok (.invokevirtual 30, 3) := by decide +kernel
theorem d_LW_page_8 : decode b_LW_page 8 = .ok (.i2l, 1) := by decide +kernel
theorem d_LW_page_9 : decode b_LW_page 9 = .ok (.lastore, 1) := by decide +kernel
theorem d_LW_page_10 : decode b_LW_page 10 = .ok (.goto 7, 3) := by decide +kernel
theorem d_LW_page_13 : decode b_LW_page 13 = .ok (.astore 4, 2) := by decide +kernel
theorem d_LW_page_15 : decode b_LW_page 15 = .ok (.iconst 1, 1) := by decide +kernel
theorem d_LW_page_16 : decode b_LW_page 16 = .ok (.ireturn, 1) := by decide +kernel
theorem d_LW_page_17 : decode b_LW_page 17 = .ok (.iconst 0, 1) := by decide +kernel
theorem d_LW_page_18 : decode b_LW_page 18 = .ok (.ireturn, 1) := by decide +kernel
theorem d_LW_entry_0 : decode b_LW_entry 0 = .ok (.aload 4, 2) := by decide +kernel
theorem d_LW_entry_2 : decode b_LW_entry 2 = .ok (.iconst 0, 1) := by decide +kernel
theorem d_LW_entry_3 : decode b_LW_entry 3 = .ok (.aload_n 0, 1) := by decide +kernel
theorem d_LW_entry_4 : decode b_LW_entry 4 = .ok (.iload_n 1, 1) := by decide +kernel
theorem d_LW_entry_5 : decode b_LW_entry 5 = .ok (.iload_n 2, 1) := by decide +kernel
theorem d_LW_entry_6 : decode b_LW_entry 6 = .ok (.iload_n 3, 1) := by decide +kernel
theorem d_LW_entry_7 : decode b_LW_entry 7 = .ok (.invokevirtual 33, 3) := by decide +kernel
theorem d_LW_entry_10 : decode b_LW_entry 10 = .ok (.i2l, 1) := by decide +kernel
theorem d_LW_entry_11 : decode b_LW_entry 11 = .ok (.lastore, 1) := by decide +kernel
theorem d_LW_entry_12 : decode b_LW_entry 12 = .ok (.goto 7, 3) := by decide +kernel
theorem d_LW_entry_15 : decode b_LW_entry 15 = .ok (.astore 5, 2) := by decide +kernel
theorem d_LW_entry_17 : decode b_LW_entry 17 = .ok (.iconst 1, 1) := by decide +kernel
theorem d_LW_entry_18 : decode b_LW_entry 18 = .ok (.ireturn, 1) := by decide +kernel
theorem d_LW_entry_19 : decode b_LW_entry 19 = .ok (.iconst 0, 1) := by decide +kernel
theorem d_LW_entry_20 : decode b_LW_entry 20 = .ok (.ireturn, 1) := by decide +kernel
theorem d_LW_under_0 : decode b_LW_under 0 = .ok (.aload_n 2, 1) := by decide +kernel
theorem d_LW_under_1 : decode b_LW_under 1 = .ok (.iconst 0, 1) := by decide +kernel
theorem d_LW_under_2 : decode b_LW_under 2 = .ok (.aload_n 0, 1) := by decide +kernel
theorem d_LW_under_3 : decode b_LW_under 3 = .ok (.iload_n 1, 1) := by decide +kernel
theorem d_LW_under_4 : decode b_LW_under 4 = .ok (.invokevirtual 37, 3) := by decide +kernel
theorem d_LW_under_7 : decode b_LW_under 7 = .ok (.i2l, 1) := by decide +kernel
theorem d_LW_under_8 : decode b_LW_under 8 = .ok (.lastore, 1) := by decide +kernel
theorem d_LW_under_9 : decode b_LW_under 9 = .ok (.goto 6, 3) := by decide +kernel
theorem d_LW_under_12 : decode b_LW_under 12 = .ok (.astore_n 3, 1) := by decide +kernel
theorem d_LW_under_13 : decode b_LW_under 13 = .ok (.iconst 1, 1) := by decide +kernel
theorem d_LW_under_14 : decode b_LW_under 14 = .ok (.ireturn, 1) := by decide +kernel
theorem d_LW_under_15 : decode b_LW_under 15 = .ok (.iconst 0, 1) := by decide +kernel
theorem d_LW_under_16 : decode b_LW_under 16 = .ok (.ireturn, 1) := by decide +kernel
theorem d_LW_law_0 : decode b_LW_law 0 = .ok (.new 8, 3) := by decide +kernel
theorem d_LW_law_3 : decode b_LW_law 3 = .ok (.dup, 1) := by decide +kernel
theorem d_LW_law_4 : decode b_LW_law 4 = .ok (.invokespecial 40, 3) := by decide +kernel
theorem d_LW_law_7 : decode b_LW_law 7 = .ok (.astore_n 1, 1) := by decide +kernel
theorem d_LW_law_8 : decode b_LW_law 8 = .ok (.new 41, 3) := by decide +kernel
theorem d_LW_law_11 : decode b_LW_law 11 = .ok (.dup, 1) := by decide +kernel
theorem d_LW_law_12 : decode b_LW_law 12 = .ok (.invokespecial 43, 3) := by decide +kernel
theorem d_LW_law_15 : decode b_LW_law 15 = .ok (.astore_n 2, 1) := by decide +kernel
theorem d_LW_law_16 : decode b_LW_law 16 = .ok (.iconst 1, 1) := by decide +kernel
theorem d_LW_law_17 : decode b_LW_law 17 = .ok (.newarray .long, 2) := by decide +kernel
theorem d_LW_law_19 : decode b_LW_law 19 = .ok (.astore_n 3, 1) := by decide +kernel
theorem d_LW_law_20 : decode b_LW_law 20 = .ok (.iconst 0, 1) := by decide +kernel
theorem d_LW_law_21 : decode b_LW_law 21 = .ok (.istore 4, 2) := by decide +kernel
theorem d_LW_law_23 : decode b_LW_law 23 = .ok (.iload 4, 2) := by decide +kernel
theorem d_LW_law_25 : decode b_LW_law 25 = .ok (.aload_n 0, 1) := by decide +kernel
theorem d_LW_law_26 : decode b_LW_law 26 = .ok (.arraylength, 1) := by decide +kernel
theorem d_LW_law_27 : decode b_LW_law 27 = .ok (.iconst 5, 1) := by decide +kernel
theorem d_LW_law_28 : decode b_LW_law 28 = .ok (.isub, 1) := by decide +kernel
theorem d_LW_law_29 : decode b_LW_law 29 = .ok (.if_icmp .gt 563, 3) := by decide +kernel
theorem d_LW_law_32 : decode b_LW_law 32 = .ok (.aload_n 0, 1) := by decide +kernel
theorem d_LW_law_33 : decode b_LW_law 33 = .ok (.iload 4, 2) := by decide +kernel
theorem d_LW_law_35 : decode b_LW_law 35 = .ok (.iaload, 1) := by decide +kernel
theorem d_LW_law_36 : decode b_LW_law 36 = .ok (.bipush 15, 2) := by decide +kernel
theorem d_LW_law_38 : decode b_LW_law 38 = .ok (.iand, 1) := by decide +kernel
theorem d_LW_law_39 : decode b_LW_law 39 = .ok (.tableswitch 547 0 8 #[49, 121, 177, 233, 301, 369, 465, 478, 491], 49) := by decide +kernel
theorem d_LW_law_88 : decode b_LW_law 88 = .ok (.aload_n 1, 1) := by decide +kernel
theorem d_LW_law_89 : decode b_LW_law 89 = .ok (.aload_n 0, 1) := by decide +kernel
theorem d_LW_law_90 : decode b_LW_law 90 = .ok (.iload 4, 2) := by decide +kernel
theorem d_LW_law_92 : decode b_LW_law 92 = .ok (.iconst 1, 1) := by decide +kernel
theorem d_LW_law_93 : decode b_LW_law 93 = .ok (.iadd, 1) := by decide +kernel
theorem d_LW_law_94 : decode b_LW_law 94 = .ok (.iaload, 1) := by decide +kernel
theorem d_LW_law_95 : decode b_LW_law 95 = .ok (.aload_n 0, 1) := by decide +kernel
theorem d_LW_law_96 : decode b_LW_law 96 = .ok (.iload 4, 2) := by decide +kernel
theorem d_LW_law_98 : decode b_LW_law 98 = .ok (.iconst 2, 1) := by decide +kernel
theorem d_LW_law_99 : decode b_LW_law 99 = .ok (.iadd, 1) := by decide +kernel
theorem d_LW_law_100 : decode b_LW_law 100 = .ok (.iaload, 1) := by decide +kernel
theorem d_LW_law_101 : decode b_LW_law 101 = .ok (.aload_n 0, 1) := by decide +kernel
theorem d_LW_law_102 : decode b_LW_law 102 = .ok (.iload 4, 2) := by decide +kernel
theorem d_LW_law_104 : decode b_LW_law 104 = .ok (.iconst 3, 1) := by decide +kernel
theorem d_LW_law_105 : decode b_LW_law 105 = .ok (.iadd, 1) := by decide +kernel
theorem d_LW_law_106 : decode b_LW_law 106 = .ok (.iaload, 1) := by decide +kernel
theorem d_LW_law_107 : decode b_LW_law 107 = .ok (.aload_n 0, 1) := by decide +kernel
theorem d_LW_law_108 : decode b_LW_law 108 = .ok (.iload 4, 2) := by decide +kernel
theorem d_LW_law_110 : decode b_LW_law 110 = .ok (.iconst 4, 1) := by decide +kernel
theorem d_LW_law_111 : decode b_LW_law 111 = .ok (.iadd, 1) := by decide +kernel
theorem d_LW_law_112 : decode b_LW_law 112 = .ok (.iaload, 1) := by decide +kernel
theorem d_LW_law_113 : decode b_LW_law 113 = .ok (.invokestatic 44, 3) := by decide +kernel
theorem d_LW_law_116 : decode b_LW_law 116 = .ok (.istore 5, 2) := by decide +kernel
theorem d_LW_law_118 : decode b_LW_law 118 = .ok (.aload_n 2, 1) := by decide +kernel
theorem d_LW_law_119 : decode b_LW_law 119 = .ok (.aload_n 0, 1) := by decide +kernel
theorem d_LW_law_120 : decode b_LW_law 120 = .ok (.iload 4, 2) := by decide +kernel
theorem d_LW_law_122 : decode b_LW_law 122 = .ok (.iconst 1, 1) := by decide +kernel
theorem d_LW_law_123 : decode b_LW_law 123 = .ok (.iadd, 1) := by decide +kernel
theorem d_LW_law_124 : decode b_LW_law 124 = .ok (.iaload, 1) := by decide +kernel
theorem d_LW_law_125 : decode b_LW_law 125 = .ok (.aload_n 0, 1) := by decide +kernel
theorem d_LW_law_126 : decode b_LW_law 126 = .ok (.iload 4, 2) := by decide +kernel
theorem d_LW_law_128 : decode b_LW_law 128 = .ok (.iconst 2, 1) := by decide +kernel
theorem d_LW_law_129 : decode b_LW_law 129 = .ok (.iadd, 1) := by decide +kernel
theorem d_LW_law_130 : decode b_LW_law 130 = .ok (.iaload, 1) := by decide +kernel
theorem d_LW_law_131 : decode b_LW_law 131 = .ok (.aload_n 0, 1) := by decide +kernel
theorem d_LW_law_132 : decode b_LW_law 132 = .ok (.iload 4, 2) := by decide +kernel
theorem d_LW_law_134 : decode b_LW_law 134 = .ok (.iconst 3, 1) := by decide +kernel
theorem d_LW_law_135 : decode b_LW_law 135 = .ok (.iadd, 1) := by decide +kernel
theorem d_LW_law_136 : decode b_LW_law 136 = .ok (.iaload, 1) := by decide +kernel
theorem d_LW_law_137 : decode b_LW_law 137 = .ok (.aload_n 0, 1) := by decide +kernel
theorem d_LW_law_138 : decode b_LW_law 138 = .ok (.iload 4, 2) := by decide +kernel
theorem d_LW_law_140 : decode b_LW_law 140 = .ok (.iconst 4, 1) := by decide +kernel
theorem d_LW_law_141 : decode b_LW_law 141 = .ok (.iadd, 1) := by decide +kernel
theorem d_LW_law_142 : decode b_LW_law 142 = .ok (.iaload, 1) := by decide +kernel
theorem d_LW_law_143 : decode b_LW_law 143 = .ok (.invokevirtual 49, 3) := by decide +kernel
theorem d_LW_law_146 : decode b_LW_law 146 = .ok (.aload_n 2, 1) := by decide +kernel
theorem d_LW_law_147 : decode b_LW_law 147 = .ok (.invokevirtual 50, 3) := by decide +kernel
theorem d_LW_law_150 : decode b_LW_law 150 = .ok (.iload 5, 2) := by decide +kernel
theorem d_LW_law_152 : decode b_LW_law 152 = .ok (.if_icmp .eq 5, 3) := by decide +kernel
theorem d_LW_law_155 : decode b_LW_law 155 = .ok (.iconst 0, 1) := by decide +kernel
theorem d_LW_law_156 : decode b_LW_law 156 = .ok (.ireturn, 1) := by decide +kernel
theorem d_LW_law_157 : decode b_LW_law 157 = .ok (.goto 429, 3) := by decide +kernel
theorem d_LW_law_160 : decode b_LW_law 160 = .ok (.aload_n 1, 1) := by decide +kernel
theorem d_LW_law_161 : decode b_LW_law 161 = .ok (.aload_n 0, 1) := by decide +kernel
theorem d_LW_law_162 : decode b_LW_law 162 = .ok (.iload 4, 2) := by decide +kernel
theorem d_LW_law_164 : decode b_LW_law 164 = .ok (.iconst 1, 1) := by decide +kernel
theorem d_LW_law_165 : decode b_LW_law 165 = .ok (.iadd, 1) := by decide +kernel
theorem d_LW_law_166 : decode b_LW_law 166 = .ok (.iaload, 1) := by decide +kernel
theorem d_LW_law_167 : decode b_LW_law 167 = .ok (.aload_n 3, 1) := by decide +kernel
theorem d_LW_law_168 : decode b_LW_law 168 = .ok (.invokestatic 54, 3) := by decide +kernel
theorem d_LW_law_171 : decode b_LW_law 171 = .ok (.istore 5, 2) := by decide +kernel
theorem d_LW_law_173 : decode b_LW_law 173 = .ok (.aload_n 2, 1) := by decide +kernel
theorem d_LW_law_174 : decode b_LW_law 174 = .ok (.aload_n 0, 1) := by decide +kernel
theorem d_LW_law_175 : decode b_LW_law 175 = .ok (.iload 4, 2) := by decide +kernel
theorem d_LW_law_177 : decode b_LW_law 177 = .ok (.iconst 1, 1) := by decide +kernel
theorem d_LW_law_178 : decode b_LW_law 178 = .ok (.iadd, 1) := by decide +kernel
theorem d_LW_law_179 : decode b_LW_law 179 = .ok (.iaload, 1) := by decide +kernel
theorem d_LW_law_180 : decode b_LW_law 180 = .ok (.invokevirtual 57, 3) := by decide +kernel
theorem d_LW_law_183 : decode b_LW_law 183 = .ok (.istore 6, 2) := by decide +kernel
theorem d_LW_law_185 : decode b_LW_law 185 = .ok (.aload_n 2, 1) := by decide +kernel
theorem d_LW_law_186 : decode b_LW_law 186 = .ok (.invokevirtual 50, 3) := by decide +kernel
theorem d_LW_law_189 : decode b_LW_law 189 = .ok (.iload 5, 2) := by decide +kernel
theorem d_LW_law_191 : decode b_LW_law 191 = .ok (.if_icmp .eq 5, 3) := by decide +kernel
theorem d_LW_law_194 : decode b_LW_law 194 = .ok (.iconst 0, 1) := by decide +kernel
theorem d_LW_law_195 : decode b_LW_law 195 = .ok (.ireturn, 1) := by decide +kernel
theorem d_LW_law_196 : decode b_LW_law 196 = .ok (.iload 5, 2) := by decide +kernel
theorem d_LW_law_198 : decode b_LW_law 198 = .ok (.ifCond .ne 15, 3) := by decide +kernel
theorem d_LW_law_201 : decode b_LW_law 201 = .ok (.aload_n 3, 1) := by decide +kernel
theorem d_LW_law_202 : decode b_LW_law 202 = .ok (.iconst 0, 1) := by decide +kernel
theorem d_LW_law_203 : decode b_LW_law 203 = .ok (.laload, 1) := by decide +kernel
theorem d_LW_law_204 : decode b_LW_law 204 = .ok (.iload 6, 2) := by decide +kernel
theorem d_LW_law_206 : decode b_LW_law 206 = .ok (.i2l, 1) := by decide +kernel
theorem d_LW_law_207 : decode b_LW_law 207 = .ok (.lcmp, 1) := by decide +kernel
theorem d_LW_law_208 : decode b_LW_law 208 = .ok (.ifCond .eq 5, 3) := by decide +kernel
theorem d_LW_law_211 : decode b_LW_law 211 = .ok (.iconst 0, 1) := by decide +kernel
theorem d_LW_law_212 : decode b_LW_law 212 = .ok (.ireturn, 1) := by decide +kernel
theorem d_LW_law_213 : decode b_LW_law 213 = .ok (.goto 373, 3) := by decide +kernel
theorem d_LW_law_216 : decode b_LW_law 216 = .ok (.aload_n 1, 1) := by decide +kernel
theorem d_LW_law_217 : decode b_LW_law 217 = .ok (.aload_n 0, 1) := by decide +kernel
theorem d_LW_law_218 : decode b_LW_law 218 = .ok (.iload 4, 2) := by decide +kernel
theorem d_LW_law_220 : decode b_LW_law 220 = .ok (.iconst 1, 1) := by decide +kernel
theorem d_LW_law_221 : decode b_LW_law 221 = .ok (.iadd, 1) := by decide +kernel
theorem d_LW_law_222 : decode b_LW_law 222 = .ok (.iaload, 1) := by decide +kernel
theorem d_LW_law_223 : decode b_LW_law 223 = .ok (.aload_n 3, 1) := by decide +kernel
theorem d_LW_law_224 : decode b_LW_law 224 = .ok (.invokestatic 58, 3) := by decide +kernel
theorem d_LW_law_227 : decode b_LW_law 227 = .ok (.istore 5, 2) := by decide +kernel
theorem d_LW_law_229 : decode b_LW_law 229 = .ok (.aload_n 2, 1) := by decide +kernel
theorem d_LW_law_230 : decode b_LW_law 230 = .ok (.aload_n 0, 1) := by decide +kernel
theorem d_LW_law_231 : decode b_LW_law 231 = .ok (.iload 4, 2) := by decide +kernel
theorem d_LW_law_233 : decode b_LW_law 233 = .ok (.iconst 1, 1) := by decide +kernel
theorem d_LW_law_234 : decode b_LW_law 234 = .ok (.iadd, 1) := by decide +kernel
theorem d_LW_law_235 : decode b_LW_law 235 = .ok (.iaload, 1) := by decide +kernel
theorem d_LW_law_236 : decode b_LW_law 236 = .ok (.invokevirtual 60, 3) := by decide +kernel
theorem d_LW_law_239 : decode b_LW_law 239 = .ok (.istore 6, 2) := by decide +kernel
theorem d_LW_law_241 : decode b_LW_law 241 = .ok (.aload_n 2, 1) := by decide +kernel
theorem d_LW_law_242 : decode b_LW_law 242 = .ok (.invokevirtual 50, 3) := by decide +kernel
theorem d_LW_law_245 : decode b_LW_law 245 = .ok (.iload 5, 2) := by decide +kernel
theorem d_LW_law_247 : decode b_LW_law 247 = .ok (.if_icmp .eq 5, 3) := by decide +kernel
theorem d_LW_law_250 : decode b_LW_law 250 = .ok (.iconst 0, 1) := by decide +kernel
theorem d_LW_law_251 : decode b_LW_law 251 = .ok (.ireturn, 1) := by decide +kernel
theorem d_LW_law_252 : decode b_LW_law 252 = .ok (.iload 5, 2) := by decide +kernel
theorem d_LW_law_254 : decode b_LW_law 254 = .ok (.ifCond .ne 15, 3) := by decide +kernel
theorem d_LW_law_257 : decode b_LW_law 257 = .ok (.aload_n 3, 1) := by decide +kernel
theorem d_LW_law_258 : decode b_LW_law 258 = .ok (.iconst 0, 1) := by decide +kernel
theorem d_LW_law_259 : decode b_LW_law 259 = .ok (.laload, 1) := by decide +kernel
theorem d_LW_law_260 : decode b_LW_law 260 = .ok (.iload 6, 2) := by decide +kernel
theorem d_LW_law_262 : decode b_LW_law 262 = .ok (.i2l, 1) := by decide +kernel
theorem d_LW_law_263 : decode b_LW_law 263 = .ok (.lcmp, 1) := by decide +kernel
theorem d_LW_law_264 : decode b_LW_law 264 = .ok (.ifCond .eq 5, 3) := by decide +kernel
theorem d_LW_law_267 : decode b_LW_law 267 = .ok (.iconst 0, 1) := by decide +kernel
theorem d_LW_law_268 : decode b_LW_law 268 = .ok (.ireturn, 1) := by decide +kernel
theorem d_LW_law_269 : decode b_LW_law 269 = .ok (.goto 317, 3) := by decide +kernel
theorem d_LW_law_272 : decode b_LW_law 272 = .ok (.aload_n 1, 1) := by decide +kernel
theorem d_LW_law_273 : decode b_LW_law 273 = .ok (.aload_n 0, 1) := by decide +kernel
theorem d_LW_law_274 : decode b_LW_law 274 = .ok (.iload 4, 2) := by decide +kernel
theorem d_LW_law_276 : decode b_LW_law 276 = .ok (.iconst 1, 1) := by decide +kernel
theorem d_LW_law_277 : decode b_LW_law 277 = .ok (.iadd, 1) := by decide +kernel
theorem d_LW_law_278 : decode b_LW_law 278 = .ok (.iaload, 1) := by decide +kernel
theorem d_LW_law_279 : decode b_LW_law 279 = .ok (.aload_n 0, 1) := by decide +kernel
theorem d_LW_law_280 : decode b_LW_law 280 = .ok (.iload 4, 2) := by decide +kernel
theorem d_LW_law_282 : decode b_LW_law 282 = .ok (.iconst 2, 1) := by decide +kernel
theorem d_LW_law_283 : decode b_LW_law 283 = .ok (.iadd, 1) := by decide +kernel
theorem d_LW_law_284 : decode b_LW_law 284 = .ok (.iaload, 1) := by decide +kernel
theorem d_LW_law_285 : decode b_LW_law 285 = .ok (.aload_n 3, 1) := by decide +kernel
theorem d_LW_law_286 : decode b_LW_law 286 = .ok (.invokestatic 61, 3) := by decide +kernel
theorem d_LW_law_289 : decode b_LW_law 289 = .ok (.istore 5, 2) := by decide +kernel
theorem d_LW_law_291 : decode b_LW_law 291 = .ok (.aload_n 2, 1) := by decide +kernel
theorem d_LW_law_292 : decode b_LW_law 292 = .ok (.aload_n 0, 1) := by decide +kernel
theorem d_LW_law_293 : decode b_LW_law 293 = .ok (.iload 4, 2) := by decide +kernel
theorem d_LW_law_295 : decode b_LW_law 295 = .ok (.iconst 1, 1) := by decide +kernel
theorem d_LW_law_296 : decode b_LW_law 296 = .ok (.iadd, 1) := by decide +kernel
theorem d_LW_law_297 : decode b_LW_law 297 = .ok (.iaload, 1) := by decide +kernel
theorem d_LW_law_298 : decode b_LW_law 298 = .ok (.aload_n 0, 1) := by decide +kernel
theorem d_LW_law_299 : decode b_LW_law 299 = .ok (.iload 4, 2) := by decide +kernel
theorem d_LW_law_301 : decode b_LW_law 301 = .ok (.iconst 2, 1) := by decide +kernel
theorem d_LW_law_302 : decode b_LW_law 302 = .ok (.iadd, 1) := by decide +kernel
theorem d_LW_law_303 : decode b_LW_law 303 = .ok (.iaload, 1) := by decide +kernel
theorem d_LW_law_304 : decode b_LW_law 304 = .ok (.invokevirtual 64, 3) := by decide +kernel
theorem d_LW_law_307 : decode b_LW_law 307 = .ok (.istore 6, 2) := by decide +kernel
theorem d_LW_law_309 : decode b_LW_law 309 = .ok (.aload_n 2, 1) := by decide +kernel
theorem d_LW_law_310 : decode b_LW_law 310 = .ok (.invokevirtual 50, 3) := by decide +kernel
theorem d_LW_law_313 : decode b_LW_law 313 = .ok (.iload 5, 2) := by decide +kernel
theorem d_LW_law_315 : decode b_LW_law 315 = .ok (.if_icmp .eq 5, 3) := by decide +kernel
theorem d_LW_law_318 : decode b_LW_law 318 = .ok (.iconst 0, 1) := by decide +kernel
theorem d_LW_law_319 : decode b_LW_law 319 = .ok (.ireturn, 1) := by decide +kernel
theorem d_LW_law_320 : decode b_LW_law 320 = .ok (.iload 5, 2) := by decide +kernel
theorem d_LW_law_322 : decode b_LW_law 322 = .ok (.ifCond .ne 15, 3) := by decide +kernel
theorem d_LW_law_325 : decode b_LW_law 325 = .ok (.aload_n 3, 1) := by decide +kernel
theorem d_LW_law_326 : decode b_LW_law 326 = .ok (.iconst 0, 1) := by decide +kernel
theorem d_LW_law_327 : decode b_LW_law 327 = .ok (.laload, 1) := by decide +kernel
theorem d_LW_law_328 : decode b_LW_law 328 = .ok (.iload 6, 2) := by decide +kernel
theorem d_LW_law_330 : decode b_LW_law 330 = .ok (.i2l, 1) := by decide +kernel
theorem d_LW_law_331 : decode b_LW_law 331 = .ok (.lcmp, 1) := by decide +kernel
theorem d_LW_law_332 : decode b_LW_law 332 = .ok (.ifCond .eq 5, 3) := by decide +kernel
theorem d_LW_law_335 : decode b_LW_law 335 = .ok (.iconst 0, 1) := by decide +kernel
theorem d_LW_law_336 : decode b_LW_law 336 = .ok (.ireturn, 1) := by decide +kernel
theorem d_LW_law_337 : decode b_LW_law 337 = .ok (.goto 249, 3) := by decide +kernel
theorem d_LW_law_340 : decode b_LW_law 340 = .ok (.aload_n 1, 1) := by decide +kernel
theorem d_LW_law_341 : decode b_LW_law 341 = .ok (.aload_n 0, 1) := by decide +kernel
theorem d_LW_law_342 : decode b_LW_law 342 = .ok (.iload 4, 2) := by decide +kernel
theorem d_LW_law_344 : decode b_LW_law 344 = .ok (.iconst 1, 1) := by decide +kernel
theorem d_LW_law_345 : decode b_LW_law 345 = .ok (.iadd, 1) := by decide +kernel
theorem d_LW_law_346 : decode b_LW_law 346 = .ok (.iaload, 1) := by decide +kernel
theorem d_LW_law_347 : decode b_LW_law 347 = .ok (.aload_n 0, 1) := by decide +kernel
theorem d_LW_law_348 : decode b_LW_law 348 = .ok (.iload 4, 2) := by decide +kernel
theorem d_LW_law_350 : decode b_LW_law 350 = .ok (.iconst 2, 1) := by decide +kernel
theorem d_LW_law_351 : decode b_LW_law 351 = .ok (.iadd, 1) := by decide +kernel
theorem d_LW_law_352 : decode b_LW_law 352 = .ok (.iaload, 1) := by decide +kernel
theorem d_LW_law_353 : decode b_LW_law 353 = .ok (.aload_n 3, 1) := by decide +kernel
theorem d_LW_law_354 : decode b_LW_law 354 = .ok (.invokestatic 65, 3) := by decide +kernel
theorem d_LW_law_357 : decode b_LW_law 357 = .ok (.istore 5, 2) := by decide +kernel
theorem d_LW_law_359 : decode b_LW_law 359 = .ok (.aload_n 2, 1) := by decide +kernel
theorem d_LW_law_360 : decode b_LW_law 360 = .ok (.aload_n 0, 1) := by decide +kernel
theorem d_LW_law_361 : decode b_LW_law 361 = .ok (.iload 4, 2) := by decide +kernel
theorem d_LW_law_363 : decode b_LW_law 363 = .ok (.iconst 1, 1) := by decide +kernel
theorem d_LW_law_364 : decode b_LW_law 364 = .ok (.iadd, 1) := by decide +kernel
theorem d_LW_law_365 : decode b_LW_law 365 = .ok (.iaload, 1) := by decide +kernel
theorem d_LW_law_366 : decode b_LW_law 366 = .ok (.aload_n 0, 1) := by decide +kernel
theorem d_LW_law_367 : decode b_LW_law 367 = .ok (.iload 4, 2) := by decide +kernel
theorem d_LW_law_369 : decode b_LW_law 369 = .ok (.iconst 2, 1) := by decide +kernel
theorem d_LW_law_370 : decode b_LW_law 370 = .ok (.iadd, 1) := by decide +kernel
theorem d_LW_law_371 : decode b_LW_law 371 = .ok (.iaload, 1) := by decide +kernel
theorem d_LW_law_372 : decode b_LW_law 372 = .ok (.invokevirtual 67, 3) := by decide +kernel
theorem d_LW_law_375 : decode b_LW_law 375 = .ok (.istore 6, 2) := by decide +kernel
theorem d_LW_law_377 : decode b_LW_law 377 = .ok (.aload_n 2, 1) := by decide +kernel
theorem d_LW_law_378 : decode b_LW_law 378 = .ok (.invokevirtual 50, 3) := by decide +kernel
theorem d_LW_law_381 : decode b_LW_law 381 = .ok (.iload 5, 2) := by decide +kernel
theorem d_LW_law_383 : decode b_LW_law 383 = .ok (.if_icmp .eq 5, 3) := by decide +kernel
theorem d_LW_law_386 : decode b_LW_law 386 = .ok (.iconst 0, 1) := by decide +kernel
theorem d_LW_law_387 : decode b_LW_law 387 = .ok (.ireturn, 1) := by decide +kernel
theorem d_LW_law_388 : decode b_LW_law 388 = .ok (.iload 5, 2) := by decide +kernel
theorem d_LW_law_390 : decode b_LW_law 390 = .ok (.ifCond .ne 15, 3) := by decide +kernel
theorem d_LW_law_393 : decode b_LW_law 393 = .ok (.aload_n 3, 1) := by decide +kernel
theorem d_LW_law_394 : decode b_LW_law 394 = .ok (.iconst 0, 1) := by decide +kernel
theorem d_LW_law_395 : decode b_LW_law 395 = .ok (.laload, 1) := by decide +kernel
theorem d_LW_law_396 : decode b_LW_law 396 = .ok (.iload 6, 2) := by decide +kernel
theorem d_LW_law_398 : decode b_LW_law 398 = .ok (.i2l, 1) := by decide +kernel
theorem d_LW_law_399 : decode b_LW_law 399 = .ok (.lcmp, 1) := by decide +kernel
theorem d_LW_law_400 : decode b_LW_law 400 = .ok (.ifCond .eq 5, 3) := by decide +kernel
theorem d_LW_law_403 : decode b_LW_law 403 = .ok (.iconst 0, 1) := by decide +kernel
theorem d_LW_law_404 : decode b_LW_law 404 = .ok (.ireturn, 1) := by decide +kernel
theorem d_LW_law_405 : decode b_LW_law 405 = .ok (.goto 181, 3) := by decide +kernel
theorem d_LW_law_408 : decode b_LW_law 408 = .ok (.aload_n 1, 1) := by decide +kernel
theorem d_LW_law_409 : decode b_LW_law 409 = .ok (.aload_n 0, 1) := by decide +kernel
theorem d_LW_law_410 : decode b_LW_law 410 = .ok (.iload 4, 2) := by decide +kernel
theorem d_LW_law_412 : decode b_LW_law 412 = .ok (.iconst 1, 1) := by decide +kernel
theorem d_LW_law_413 : decode b_LW_law 413 = .ok (.iadd, 1) := by decide +kernel
theorem d_LW_law_414 : decode b_LW_law 414 = .ok (.iaload, 1) := by decide +kernel
theorem d_LW_law_415 : decode b_LW_law 415 = .ok (.aload_n 0, 1) := by decide +kernel
theorem d_LW_law_416 : decode b_LW_law 416 = .ok (.iload 4, 2) := by decide +kernel
theorem d_LW_law_418 : decode b_LW_law 418 = .ok (.iconst 2, 1) := by decide +kernel
theorem d_LW_law_419 : decode b_LW_law 419 = .ok (.iadd, 1) := by decide +kernel
theorem d_LW_law_420 : decode b_LW_law 420 = .ok (.iaload, 1) := by decide +kernel
theorem d_LW_law_421 : decode b_LW_law 421 = .ok (.aload_n 0, 1) := by decide +kernel
theorem d_LW_law_422 : decode b_LW_law 422 = .ok (.iload 4, 2) := by decide +kernel
theorem d_LW_law_424 : decode b_LW_law 424 = .ok (.iconst 3, 1) := by decide +kernel
theorem d_LW_law_425 : decode b_LW_law 425 = .ok (.iadd, 1) := by decide +kernel
theorem d_LW_law_426 : decode b_LW_law 426 = .ok (.iaload, 1) := by decide +kernel
theorem d_LW_law_427 : decode b_LW_law 427 = .ok (.ifCond .eq 7, 3) := by decide +kernel
theorem d_LW_law_430 : decode b_LW_law 430 = .ok (.iconst 1, 1) := by decide +kernel
theorem d_LW_law_431 : decode b_LW_law 431 = .ok (.goto 4, 3) := by decide +kernel
theorem d_LW_law_434 : decode b_LW_law 434 = .ok (.iconst 0, 1) := by decide +kernel
theorem d_LW_law_435 : decode b_LW_law 435 = .ok (.aload_n 3, 1) := by decide +kernel
theorem d_LW_law_436 : decode b_LW_law 436 = .ok (.invokestatic 68, 3) := by decide +kernel
theorem d_LW_law_439 : decode b_LW_law 439 = .ok (.istore 5, 2) := by decide +kernel
theorem d_LW_law_441 : decode b_LW_law 441 = .ok (.aload_n 2, 1) := by decide +kernel
theorem d_LW_law_442 : decode b_LW_law 442 = .ok (.aload_n 0, 1) := by decide +kernel
theorem d_LW_law_443 : decode b_LW_law 443 = .ok (.iload 4, 2) := by decide +kernel
theorem d_LW_law_445 : decode b_LW_law 445 = .ok (.iconst 1, 1) := by decide +kernel
theorem d_LW_law_446 : decode b_LW_law 446 = .ok (.iadd, 1) := by decide +kernel
theorem d_LW_law_447 : decode b_LW_law 447 = .ok (.iaload, 1) := by decide +kernel
theorem d_LW_law_448 : decode b_LW_law 448 = .ok (.aload_n 0, 1) := by decide +kernel
theorem d_LW_law_449 : decode b_LW_law 449 = .ok (.iload 4, 2) := by decide +kernel
theorem d_LW_law_451 : decode b_LW_law 451 = .ok (.iconst 2, 1) := by decide +kernel
theorem d_LW_law_452 : decode b_LW_law 452 = .ok (.iadd, 1) := by decide +kernel
theorem d_LW_law_453 : decode b_LW_law 453 = .ok (.iaload, 1) := by decide +kernel
theorem d_LW_law_454 : decode b_LW_law 454 = .ok (.aload_n 0, 1) := by decide +kernel
theorem d_LW_law_455 : decode b_LW_law 455 = .ok (.iload 4, 2) := by decide +kernel
theorem d_LW_law_457 : decode b_LW_law 457 = .ok (.iconst 3, 1) := by decide +kernel
theorem d_LW_law_458 : decode b_LW_law 458 = .ok (.iadd, 1) := by decide +kernel
theorem d_LW_law_459 : decode b_LW_law 459 = .ok (.iaload, 1) := by decide +kernel
theorem d_LW_law_460 : decode b_LW_law 460 = .ok (.ifCond .eq 7, 3) := by decide +kernel
theorem d_LW_law_463 : decode b_LW_law 463 = .ok (.iconst 1, 1) := by decide +kernel
theorem d_LW_law_464 : decode b_LW_law 464 = .ok (.goto 4, 3) := by decide +kernel
theorem d_LW_law_467 : decode b_LW_law 467 = .ok (.iconst 0, 1) := by decide +kernel
theorem d_LW_law_468 : decode b_LW_law 468 = .ok (.invokevirtual 71, 3) := by decide +kernel
theorem d_LW_law_471 : decode b_LW_law 471 = .ok (.istore 6, 2) := by decide +kernel
theorem d_LW_law_473 : decode b_LW_law 473 = .ok (.aload_n 2, 1) := by decide +kernel
theorem d_LW_law_474 : decode b_LW_law 474 = .ok (.invokevirtual 50, 3) := by decide +kernel
theorem d_LW_law_477 : decode b_LW_law 477 = .ok (.iload 5, 2) := by decide +kernel
theorem d_LW_law_479 : decode b_LW_law 479 = .ok (.if_icmp .eq 5, 3) := by decide +kernel
theorem d_LW_law_482 : decode b_LW_law 482 = .ok (.iconst 0, 1) := by decide +kernel
theorem d_LW_law_483 : decode b_LW_law 483 = .ok (.ireturn, 1) := by decide +kernel
theorem d_LW_law_484 : decode b_LW_law 484 = .ok (.iload 5, 2) := by decide +kernel
theorem d_LW_law_486 : decode b_LW_law 486 = .ok (.ifCond .ne 15, 3) := by decide +kernel
theorem d_LW_law_489 : decode b_LW_law 489 = .ok (.aload_n 3, 1) := by decide +kernel
theorem d_LW_law_490 : decode b_LW_law 490 = .ok (.iconst 0, 1) := by decide +kernel
theorem d_LW_law_491 : decode b_LW_law 491 = .ok (.laload, 1) := by decide +kernel
theorem d_LW_law_492 : decode b_LW_law 492 = .ok (.iload 6, 2) := by decide +kernel
theorem d_LW_law_494 : decode b_LW_law 494 = .ok (.i2l, 1) := by decide +kernel
theorem d_LW_law_495 : decode b_LW_law 495 = .ok (.lcmp, 1) := by decide +kernel
theorem d_LW_law_496 : decode b_LW_law 496 = .ok (.ifCond .eq 5, 3) := by decide +kernel
theorem d_LW_law_499 : decode b_LW_law 499 = .ok (.iconst 0, 1) := by decide +kernel
theorem d_LW_law_500 : decode b_LW_law 500 = .ok (.ireturn, 1) := by decide +kernel
theorem d_LW_law_501 : decode b_LW_law 501 = .ok (.goto 85, 3) := by decide +kernel
theorem d_LW_law_504 : decode b_LW_law 504 = .ok (.aload_n 1, 1) := by decide +kernel
theorem d_LW_law_505 : decode b_LW_law 505 = .ok (.invokevirtual 72, 3) := by decide +kernel
theorem d_LW_law_508 : decode b_LW_law 508 = .ok (.aload_n 2, 1) := by decide +kernel
theorem d_LW_law_509 : decode b_LW_law 509 = .ok (.invokevirtual 75, 3) := by decide +kernel
theorem d_LW_law_512 : decode b_LW_law 512 = .ok (.if_icmp .eq 74, 3) := by decide +kernel
theorem d_LW_law_515 : decode b_LW_law 515 = .ok (.iconst 0, 1) := by decide +kernel
theorem d_LW_law_516 : decode b_LW_law 516 = .ok (.ireturn, 1) := by decide +kernel
theorem d_LW_law_517 : decode b_LW_law 517 = .ok (.aload_n 1, 1) := by decide +kernel
theorem d_LW_law_518 : decode b_LW_law 518 = .ok (.invokevirtual 76, 3) := by decide +kernel
theorem d_LW_law_521 : decode b_LW_law 521 = .ok (.aload_n 2, 1) := by decide +kernel
theorem d_LW_law_522 : decode b_LW_law 522 = .ok (.invokevirtual 79, 3) := by decide +kernel
theorem d_LW_law_525 : decode b_LW_law 525 = .ok (.if_icmp .eq 61, 3) := by decide +kernel
theorem d_LW_law_528 : decode b_LW_law 528 = .ok (.iconst 0, 1) := by decide +kernel
theorem d_LW_law_529 : decode b_LW_law 529 = .ok (.ireturn, 1) := by decide +kernel
theorem d_LW_law_530 : decode b_LW_law 530 = .ok (.aload_n 1, 1) := by decide +kernel
theorem d_LW_law_531 : decode b_LW_law 531 = .ok (.aload_n 0, 1) := by decide +kernel
theorem d_LW_law_532 : decode b_LW_law 532 = .ok (.iload 4, 2) := by decide +kernel
theorem d_LW_law_534 : decode b_LW_law 534 = .ok (.iconst 1, 1) := by decide +kernel
theorem d_LW_law_535 : decode b_LW_law 535 = .ok (.iadd, 1) := by decide +kernel
theorem d_LW_law_536 : decode b_LW_law 536 = .ok (.iaload, 1) := by decide +kernel
theorem d_LW_law_537 : decode b_LW_law 537 = .ok (.aload_n 3, 1) := by decide +kernel
theorem d_LW_law_538 : decode b_LW_law 538 = .ok (.invokestatic 80, 3) := by decide +kernel
theorem d_LW_law_541 : decode b_LW_law 541 = .ok (.istore 5, 2) := by decide +kernel
theorem d_LW_law_543 : decode b_LW_law 543 = .ok (.aload_n 2, 1) := by decide +kernel
theorem d_LW_law_544 : decode b_LW_law 544 = .ok (.aload_n 0, 1) := by decide +kernel
theorem d_LW_law_545 : decode b_LW_law 545 = .ok (.iload 4, 2) := by decide +kernel
theorem d_LW_law_547 : decode b_LW_law 547 = .ok (.iconst 1, 1) := by decide +kernel
theorem d_LW_law_548 : decode b_LW_law 548 = .ok (.iadd, 1) := by decide +kernel
theorem d_LW_law_549 : decode b_LW_law 549 = .ok (.iaload, 1) := by decide +kernel
theorem d_LW_law_550 : decode b_LW_law 550 = .ok (.invokevirtual 82, 3) := by decide +kernel
theorem d_LW_law_553 : decode b_LW_law 553 = .ok (.istore 6, 2) := by decide +kernel
theorem d_LW_law_555 : decode b_LW_law 555 = .ok (.aload_n 2, 1) := by decide +kernel
theorem d_LW_law_556 : decode b_LW_law 556 = .ok (.invokevirtual 50, 3) := by decide +kernel
theorem d_LW_law_559 : decode b_LW_law 559 = .ok (.iload 5, 2) := by decide +kernel
theorem d_LW_law_561 : decode b_LW_law 561 = .ok (.if_icmp .eq 5, 3) := by decide +kernel
theorem d_LW_law_564 : decode b_LW_law 564 = .ok (.iconst 0, 1) := by decide +kernel
theorem d_LW_law_565 : decode b_LW_law 565 = .ok (.ireturn, 1) := by decide +kernel
theorem d_LW_law_566 : decode b_LW_law 566 = .ok (.iload 5, 2) := by decide +kernel
theorem d_LW_law_568 : decode b_LW_law 568 = .ok (.ifCond .ne 15, 3) := by decide +kernel
theorem d_LW_law_571 : decode b_LW_law 571 = .ok (.aload_n 3, 1) := by decide +kernel
theorem d_LW_law_572 : decode b_LW_law 572 = .ok (.iconst 0, 1) := by decide +kernel
theorem d_LW_law_573 : decode b_LW_law 573 = .ok (.laload, 1) := by decide +kernel
theorem d_LW_law_574 : decode b_LW_law 574 = .ok (.iload 6, 2) := by decide +kernel
theorem d_LW_law_576 : decode b_LW_law 576 = .ok (.i2l, 1) := by decide +kernel
theorem d_LW_law_577 : decode b_LW_law 577 = .ok (.lcmp, 1) := by decide +kernel
theorem d_LW_law_578 : decode b_LW_law 578 = .ok (.ifCond .eq 5, 3) := by decide +kernel
theorem d_LW_law_581 : decode b_LW_law 581 = .ok (.iconst 0, 1) := by decide +kernel
theorem d_LW_law_582 : decode b_LW_law 582 = .ok (.ireturn, 1) := by decide +kernel
theorem d_LW_law_583 : decode b_LW_law 583 = .ok (.goto 3, 3) := by decide +kernel
theorem d_LW_law_586 : decode b_LW_law 586 = .ok (.iinc 4 5, 3) := by decide +kernel
theorem d_LW_law_589 : decode b_LW_law 589 = .ok (.goto (-566), 3) := by decide +kernel
theorem d_LW_law_592 : decode b_LW_law 592 = .ok (.iconst 1, 1) := by decide +kernel
theorem d_LW_law_593 : decode b_LW_law 593 = .ok (.ireturn, 1) := by decide +kernel
end
section
/-! the memory of a tree: a field's number and a place in it. 0 kind, 1 level, 2 low, 3 high, 4 right, 5 count, 6 who locks it, 7 first and 8 second (five places a page), 9 awaited (all of a page); 10 the queue;
11 busy (in the class: idle), 12 operation, 13 phase, 14 place, 15 key, 16 wanted level, 17 value, 18 page that it is about, 19 path (32 places a task), 20 answered, 21 answer, 22 counts (four places a task: all of a task); 23 a stack of pages; 24: root, queued, thrown -/
abbrev lk_M : Type := Nat → Nat → Int32
def lk_st (σ : lk_M) (a i : Nat) (v : Int32) : lk_M := va_up σ a (upd (σ a) i v)
theorem lk_st_eq (σ : lk_M) (a i : Nat) (v : Int32) (b j : Nat) : lk_st σ a i v b j = if b = a ∧ j = i then v else σ b j := by
  unfold lk_st va_up upd
  by_cases h : b = a
  · subst h
    by_cases h2 : j = i
    · simp [h2]
    · simp [h2]
  · simp [h]
theorem lk_up_eq (σ : lk_M) (a : Nat) (f : Nat → Int32) (b j : Nat) : va_up σ a f b j = if b = a then f j else σ b j := by
  unfold va_up
  by_cases h : b = a
  · simp [h]
  · simp [h]
/-- the entries from lo to hi - 1 go one place up, x comes to lo -/
def lk_shR (f : Nat → Int32) (lo hi : Nat) (x : Int32) : Nat → Int32 := fun i => if i = lo then x else if lo < i ∧ i ≤ hi then f (i - 1) else f i
/-- the entries from lo + 1 to hi go one place down -/
def lk_shL (f : Nat → Int32) (lo hi : Nat) : Nat → Int32 := fun i => if lo ≤ i ∧ i < hi then f (i + 1) else f i
def lk_ins (σ : lk_M) (p k n : Nat) (a b : Int32) : lk_M :=
  va_up (va_up (va_up σ 7 (lk_shR (σ 7) (5 * p + k) (5 * p + n) a)) 8 (lk_shR (σ 8) (5 * p + k) (5 * p + n) b)) 5 (upd (σ 5) p (nI (n + 1)))
def lk_del (σ : lk_M) (p k n : Nat) : lk_M :=
  va_up (va_up (va_up σ 7 (lk_shL (σ 7) (5 * p + k) (5 * p + (n - 1)))) 8 (lk_shL (σ 8) (5 * p + k) (5 * p + (n - 1)))) 5 (upd (σ 5) p (nI (n - 1)))
def lk_mk (σ : lk_M) (p : Nat) (l lo hi r : Int32) : lk_M :=
  lk_st (lk_st (lk_st (lk_st (lk_st (lk_st (lk_st σ 0 p 1) 1 p l) 2 p lo) 3 p hi) 4 p r) 5 p 0) 6 p (-1)
/-- how many places from b on are below k, at most n -/
def lk_fr (f : Nat → Int32) (k : Int32) : Nat → Nat → Nat
  | 0, _ => 0
  | n + 1, b => if f b < k then lk_fr f k n (b + 1) + 1 else 0
theorem lk_fr_le (f : Nat → Int32) (k : Int32) : ∀ (n b : Nat), lk_fr f k n b ≤ n := by
  intro n
  induction n with
  | zero => intro b; exact Nat.le_refl _
  | succ n ih =>
    intro b
    unfold lk_fr
    by_cases h : f b < k
    · rw [if_pos h]; have := ih (b + 1); omega
    · rw [if_neg h]; omega
theorem lk_fr_lt (f : Nat → Int32) (k : Int32) : ∀ (n b j : Nat), j < lk_fr f k n b → f (b + j) < k := by
  intro n
  induction n with
  | zero => intro b j h; exact absurd h (by unfold lk_fr; omega)
  | succ n ih =>
    intro b j h
    unfold lk_fr at h
    by_cases c : f b < k
    · rw [if_pos c] at h
      cases j with
      | zero => exact c
      | succ j =>
        have := ih (b + 1) j (by omega)
        rw [show b + (j + 1) = b + 1 + j by omega]
        exact this
    · rw [if_neg c] at h
      omega
theorem lk_fr_ge (f : Nat → Int32) (k : Int32) : ∀ (n b : Nat), lk_fr f k n b < n → ¬ f (b + lk_fr f k n b) < k := by
  intro n
  induction n with
  | zero => intro b h; omega
  | succ n ih =>
    intro b h
    unfold lk_fr at h ⊢
    by_cases c : f b < k
    · rw [if_pos c] at h ⊢
      have := ih (b + 1) (by omega)
      rw [show b + (lk_fr f k n (b + 1) + 1) = b + 1 + lk_fr f k n (b + 1) by omega]
      exact this
    · rw [if_neg c]
      exact c
/-- the first place from b on, of n, that holds x; or b + n -/
def lk_ff (f : Nat → Int32) (x : Int32) : Nat → Nat → Nat
  | 0, b => b
  | n + 1, b => if f b = x then b else lk_ff f x n (b + 1)
theorem lk_ff_le (f : Nat → Int32) (x : Int32) : ∀ (n b : Nat), b ≤ lk_ff f x n b ∧ lk_ff f x n b ≤ b + n := by
  intro n
  induction n with
  | zero => intro b; unfold lk_ff; omega
  | succ n ih =>
    intro b
    unfold lk_ff
    by_cases h : f b = x
    · rw [if_pos h]; omega
    · rw [if_neg h]; have := ih (b + 1); omega
theorem lk_ff_at (f : Nat → Int32) (x : Int32) : ∀ (n b : Nat), lk_ff f x n b < b + n → f (lk_ff f x n b) = x := by
  intro n
  induction n with
  | zero => intro b h; unfold lk_ff at h; omega
  | succ n ih =>
    intro b h
    unfold lk_ff at h ⊢
    by_cases c : f b = x
    · rw [if_pos c]; exact c
    · rw [if_neg c] at h ⊢
      exact ih (b + 1) (by omega)
theorem lk_ff_no (f : Nat → Int32) (x : Int32) : ∀ (n b j : Nat), b ≤ j → j < lk_ff f x n b → f j ≠ x := by
  intro n
  induction n with
  | zero => intro b j h1 h2; unfold lk_ff at h2; omega
  | succ n ih =>
    intro b j h1 h2
    unfold lk_ff at h2
    by_cases c : f b = x
    · rw [if_pos c] at h2; omega
    · rw [if_neg c] at h2
      by_cases e : j = b
      · rw [e]; exact c
      · exact ih (b + 1) j (by omega) h2
/-- a place as a number, or -1 -/
def lk_nn (j n : Nat) : Int32 := if j < n then nI j else -1
def lk_free (σ : lk_M) : Nat := lk_ff (σ 0) 0 24 0
/-- the queue: is it there; it comes; it goes -/
def lk_has (f : Nat → Int32) (x : Int32) (n : Nat) : Prop := ∃ i, i < n ∧ f i = x
def lk_cmp (f : Nat → Int32) (x : Int32) : Nat → (Nat → Int32) × Nat
  | 0 => (f, 0)
  | i + 1 => if (lk_cmp f x i).1 i = x then lk_cmp f x i else (upd (lk_cmp f x i).1 (lk_cmp f x i).2 ((lk_cmp f x i).1 i), (lk_cmp f x i).2 + 1)
theorem lk_cmp_le (f : Nat → Int32) (x : Int32) : ∀ i, (lk_cmp f x i).2 ≤ i := by
  intro i
  induction i with
  | zero => exact Nat.le_refl _
  | succ i ih =>
    unfold lk_cmp
    by_cases h : (lk_cmp f x i).1 i = x
    · rw [if_pos h]; omega
    · rw [if_neg h]; show (lk_cmp f x i).2 + 1 ≤ i + 1; omega
noncomputable def lk_cq (σ : lk_M) (x : Int32) (n : Nat) : lk_M := @ite _ (lk_has (σ 10) x n ∨ n = 12) (Classical.propDecidable _) σ (lk_st (lk_st σ 10 n x) 24 1 (nI (n + 1)))
def lk_lq (σ : lk_M) (x : Int32) (n : Nat) : lk_M := va_up (va_up σ 10 (lk_cmp (σ 10) x n).1) 24 (upd (σ 24) 1 (nI (lk_cmp (σ 10) x n).2))
/-- a task's bit; all but a task's -/
def lk_bit (t : Nat) : Int32 := (1 : Int32) <<< (nI t &&& 31)
def lk_off (t : Nat) : Int32 := lk_bit t ^^^ (-1)
/-- the bits of the first n tasks that b names, but one -/
noncomputable def lk_mask (b : Nat → Prop) (t0 : Nat) : Nat → Int32
  | 0 => 0
  | t + 1 => @ite _ (b t ∧ t ≠ t0) (Classical.propDecidable _) (lk_mask b t0 t ||| lk_bit t) (lk_mask b t0 t)
/-- no path; a search from x; a restart; to the right -/
def lk_nop (σ : lk_M) (t : Nat) : lk_M := va_up σ 19 (fun i => if 32 * t ≤ i ∧ i < 32 * t + 32 then -1 else σ 19 i)
def lk_srch (σ : lk_M) (t : Nat) (x : Int32) : lk_M := lk_st (lk_st σ 13 t 0) 14 t x
def lk_rst (σ : lk_M) (t : Nat) : lk_M := lk_st (lk_srch (lk_nop σ t) t (σ 24 0)) 22 (4 * t + 3) (σ 22 (4 * t + 3) + 1)
def lk_rgt (σ : lk_M) (t p : Nat) : lk_M := lk_st (lk_st σ 14 t (σ 4 p)) 22 (4 * t + 2) (σ 22 (4 * t + 2) + 1)
end
section
/-! worlds by numbers: the cells 0 .. n - 1, each at ad k, with what e says of it -/
def lk_w (n : Nat) (ad : Nat → Nat) (e : Nat → va_E) : va_W := (List.range n).map (fun k => (ad k, e k))
theorem lk_w_get {n : Nat} {ad : Nat → Nat} {e : Nat → va_E} {k : Nat} (h : k < n) : (lk_w n ad e)[k]? = some (ad k, e k) := by
  unfold lk_w
  rw [List.getElem?_map, List.getElem?_range h]
  rfl
theorem lk_w_len {n : Nat} {ad : Nat → Nat} {e : Nat → va_E} : (lk_w n ad e).length = n := by
  simp [lk_w]
theorem lk_w_lt {n : Nat} {ad : Nat → Nat} {e : Nat → va_E} {k : Nat} {q : Nat × va_E} (h : (lk_w n ad e)[k]? = some q) : k < n ∧ q = (ad k, e k) := by
  have h1 := (List.getElem?_eq_some_iff.mp h).1
  rw [lk_w_len] at h1
  rw [lk_w_get h1] at h
  exact ⟨h1, (Option.some.inj h).symm⟩
theorem lk_w_set {n : Nat} {ad : Nat → Nat} {e : Nat → va_E} {k : Nat} {x : va_E} (h : k < n) : (lk_w n ad e).set k (ad k, x) = lk_w n ad (va_up e k x) := by
  apply List.ext_getElem?
  intro j
  by_cases hj : j = k
  · subst hj
    rw [List.getElem?_set_self (by rw [lk_w_len]; exact h), lk_w_get h, va_up_self]
  · rw [List.getElem?_set_ne (Ne.symm hj)]
    by_cases hn : j < n
    · rw [lk_w_get hn, lk_w_get hn, va_up_ne _ _ hj]
    · rw [List.getElem?_eq_none (by rw [lk_w_len]; omega), List.getElem?_eq_none (by rw [lk_w_len]; omega)]
theorem lk_w_congr {n : Nat} {ad : Nat → Nat} {e e' : Nat → va_E} (h : ∀ k, k < n → e k = e' k) : lk_w n ad e = lk_w n ad e' := by
  unfold lk_w
  apply List.map_congr_left
  intro k hk
  rw [h k (List.mem_range.mp hk)]
theorem lk_w_D {A : Nat → Prop} {n : Nat} {ad : Nat → Nat} {e e' : Nat → va_E} (h : va_D A (lk_w n ad e)) : va_D A (lk_w n ad e') := by
  refine ⟨fun i j x y hx hy hxy => ?_, fun k q hk => ?_⟩
  · obtain ⟨h1, rfl⟩ := lk_w_lt hx
    obtain ⟨h2, rfl⟩ := lk_w_lt hy
    exact h.1 i j (ad i, e i) (ad j, e j) (lk_w_get h1) (lk_w_get h2) hxy
  · obtain ⟨h1, rfl⟩ := lk_w_lt hk
    exact h.2 k (ad k, e k) (lk_w_get h1)
theorem lk_w_Dw {A B : Nat → Prop} {n : Nat} {ad : Nat → Nat} {e e' : Nat → va_E} (h : va_D A (lk_w n ad e)) (hB : ∀ k, k < n → B (ad k)) : va_D B (lk_w n ad e') := by
  refine ⟨(lk_w_D (e' := e') h).1, fun k q hk => ?_⟩
  obtain ⟨h1, rfl⟩ := lk_w_lt hk
  exact hB k h1
/-- what a method over such a world may change -/
def lk_A (n : Nat) (ad : Nat → Nat) (sz : Nat) : Nat → Prop := fun q => (∃ k, k < n ∧ ad k = q) ∨ sz ≤ q
/-- the heap holds the world, its cells are apart and in A; nothing outside A has changed since H0 -/
def lk_H (D : va_G) (cl : List vw_C) (A : Nat → Prop) (H0 : Heap) (ws : va_W) (H : Heap) (locs : List Loc) : Prop := va_P D cl ws H ∧ va_D A ws ∧ va_S A H0 H locs
theorem lk_H.P {D : va_G} {cl : List vw_C} {A : Nat → Prop} {H0 : Heap} {ws : va_W} {H : Heap} {locs : List Loc} (h : lk_H D cl A H0 ws H locs) : va_P D cl ws H := h.1
theorem lk_H.D {D : va_G} {cl : List vw_C} {A : Nat → Prop} {H0 : Heap} {ws : va_W} {H : Heap} {locs : List Loc} (h : lk_H D cl A H0 ws H locs) : va_D A ws := h.2.1
theorem lk_H.S {D : va_G} {cl : List vw_C} {A : Nat → Prop} {H0 : Heap} {ws : va_W} {H : Heap} {locs : List Loc} (h : lk_H D cl A H0 ws H locs) : va_S A H0 H locs := h.2.2
section Rows
variable {p : Program} {l : Launch} {e : Env} {R : Room} {s : State} {m : MethodId} {args : Array Value} {below : List Frame} {meth : Method} {c : Code} {H : Heap} {locs : List Loc} {cells slots : Nat} {Q : State → Prop}
variable {cc : ByteArray} {pc : Nat} {ls : Array Slot} {rest : List Value}
/-- the top of the stack under another name -/
theorem lk_top {x : Int32} (v : Int32) (h : x = v) (k : W p l e R s m args below meth c H locs cells slots Q (F0 m pc ls (.int v :: rest))) : W p l e R s m args below meth c H locs cells slots Q (F0 m pc ls (.int x :: rest)) := by
  rw [h]; exact k
/-- numbers that are no more than their names -/
theorem lk_iaddN (hexec : p.tables.exec = Jvm.exec) (hb : c.code = cc) {x y : Nat} (hdg : decode cc pc = .ok (.iadd, 1)) (k : W p l e R s m args below meth c H locs cells slots Q (F0 m (pc + 1) ls (.int (nI (x + y)) :: rest))) : W p l e R s m args below meth c H locs cells slots Q (F0 m pc ls (.int (nI y) :: .int (nI x) :: rest)) :=
  lv_iadd hexec hb hdg (by rw [nI_add]; exact k)
theorem lk_imulN (hexec : p.tables.exec = Jvm.exec) (hb : c.code = cc) {x y : Nat} (hdg : decode cc pc = .ok (.imul, 1)) (k : W p l e R s m args below meth c H locs cells slots Q (F0 m (pc + 1) ls (.int (nI (x * y)) :: rest))) : W p l e R s m args below meth c H locs cells slots Q (F0 m pc ls (.int (nI y) :: .int (nI x) :: rest)) :=
  lv_imul hexec hb hdg (by rw [pk_mul]; exact k)
theorem lk_isubN (hexec : p.tables.exec = Jvm.exec) (hb : c.code = cc) {x y : Nat} (h : y ≤ x) (hdg : decode cc pc = .ok (.isub, 1)) (k : W p l e R s m args below meth c H locs cells slots Q (F0 m (pc + 1) ls (.int (nI (x - y)) :: rest))) : W p l e R s m args below meth c H locs cells slots Q (F0 m pc ls (.int (nI y) :: .int (nI x) :: rest)) :=
  lv_isub hexec hb hdg (by rw [pk_sub h]; exact k)
end Rows
end
section
/-! contracts over a world by numbers, and their use -/
abbrev lk_cl : List vw_C := [(R_LT, T_LT, 5), (R_ND, T_ND, 11), (R_TA, T_TA, 16), (R_SP, T_SP, 2), (R_MO, T_MO, 27)]
def lk_tys (τ : Nat → ClassId) : List (ClassId × FieldType) := [(τ 0, .int), (τ 1, .boolean), (τ 2, .object "LinkTree$Node"), (τ 3, .object "LinkTree$Task"), (τ 4, .long)]
def lk_Pre (D : va_G) (τ : Nat → ClassId) (ws : va_W) (sz : Nat) (U : State) : Prop := U.heap.size = sz ∧ va_P D lk_cl ws U.heap ∧ va_K D lk_cl (lk_tys τ) U ∧ va_D (fun _ => True) ws
def lk_Bh (D : va_G) (τ : Nat → ClassId) (n : Nat) (ad : Nat → Nat) (el : lk_M → Nat → va_E) (σ : lk_M) (t : State) : Prop := va_P D lk_cl (lk_w n ad (el σ)) t.heap ∧ va_K D lk_cl (lk_tys τ) t
abbrev lk_rm (fr lo : Nat) : Room := { frames := fr, cells := 0, slots := 0, locals := lo }
def lk_Ci (l : Launch) (D : va_G) (τ : Nat → ClassId) (n : Nat) (ad : Nat → Nat) (el : lk_M → Nat → va_E) (y : MethodName) (b : ByteArray) (nL : Nat) (ty : FieldType) (fr lo : Nat) (av : List Value) (σ : lk_M) (post : Int32 → lk_M → Prop) : Prop :=
  ∀ sz : Nat, Met l y (.code y b nL (some ty) :: lk_G) (lk_rm fr lo) (va_Pc av (lk_Pre D τ (lk_w n ad (el σ)) sz)) (va_Qi post (lk_Bh D τ n ad el) (lk_A n ad sz)) 0 0 (lk_A n ad sz)
def lk_Cv (l : Launch) (D : va_G) (τ : Nat → ClassId) (n : Nat) (ad : Nat → Nat) (el : lk_M → Nat → va_E) (y : MethodName) (b : ByteArray) (nL : Nat) (fr lo : Nat) (av : List Value) (σ : lk_M) (post : lk_M → Prop) : Prop :=
  ∀ sz : Nat, Met l y (.code y b nL none :: lk_G) (lk_rm fr lo) (va_Pc av (lk_Pre D τ (lk_w n ad (el σ)) sz)) (va_Qv post (lk_Bh D τ n ad el) (lk_A n ad sz)) 0 0 (lk_A n ad sz)
def lk_Cq (l : Launch) (D : va_G) (τ : Nat → ClassId) (n : Nat) (ad : Nat → Nat) (el : lk_M → Nat → va_E) (y : MethodName) (b : ByteArray) (nL : Nat) (ty : FieldType) (fr lo : Nat) (av : List Value) (σ : lk_M) (post : Option Nat → lk_M → Prop) : Prop :=
  ∀ sz : Nat, Met l y (.code y b nL (some ty) :: lk_G) (lk_rm fr lo) (va_Pc av (lk_Pre D τ (lk_w n ad (el σ)) sz)) (va_Qq post (lk_Bh D τ n ad el) (lk_A n ad sz)) 0 0 (lk_A n ad sz)
/-- what a body has at hand -/
def lk_X (p : Program) (s : State) (m : MethodId) (args : Array Value) (meth : Method) (c : Code) (y : MethodName) (b : ByteArray) (nL : Nat) (ret : Option FieldType) (D : va_G) (τ : Nat → ClassId) : Prop :=
  p.tables.exec = Jvm.exec ∧ c.code = b ∧ c.maxLocals = nL ∧ meth.sig.returnType = ret ∧ (∀ w ∈ lk_G, w.before args s = true) ∧ s.vm.findClass y.cls = some m.cls ∧ meth.locks = false ∧ va_K D lk_cl (lk_tys τ) s
theorem lk_A_D {A : Nat → Prop} {n : Nat} {ad : Nat → Nat} {e : Nat → va_E} {H0 H : Heap} {locs : List Loc} (hD : va_D A (lk_w n ad e)) (hS : va_S A H0 H locs) (hA : ∀ q, H0.size ≤ q → A q) : ∀ q, lk_A n ad H.size q → A q := by
  intro q h
  rcases h with ⟨k, hk, rfl⟩ | h
  · exact hD.2 k _ (lk_w_get hk)
  · exact hA q (Nat.le_trans hS.1 h)
section Open
variable {l : Launch} {D : va_G} {τ : Nat → ClassId} {n : Nat} {ad : Nat → Nat} {el : lk_M → Nat → va_E} {y : MethodName} {b : ByteArray} {nL : Nat} {ty : FieldType} {fr lo : Nat} {av : List Value} {σ : lk_M}
theorem lk_open {ret : Option FieldType} {mk : (Nat → Prop) → Array Value → State → Outcome → State → Prop} (hy : plainName y.cls = true) (hlen : (lg_sl av).length ≤ nL)
    (body : ∀ (p : Program) (e : Env) (s : State) (m : MethodId) (args : Array Value) (below : List Frame) (meth : Method) (c : Code) (ls : Array Slot) (A : Nat → Prop), lk_X p s m args meth c y b nL ret D τ → lk_H D lk_cl A s.heap (lk_w n ad (el σ)) s.heap [] → (∀ q, s.heap.size ≤ q → A q) → lv_has ls nL (lv_args 0 av) →
      W p l e (lk_rm fr lo) s m args below meth c s.heap [] 0 0 (MQ below (mk A) args s 0 0 A) (F0 m 0 ls [])) :
    ∀ sz : Nat, Met l y (.code y b nL ret :: lk_G) (lk_rm fr lo) (va_Pc av (lk_Pre D τ (lk_w n ad (el σ)) sz)) (mk (lk_A n ad sz)) 0 0 (lk_A n ad sz) := by
  intro sz
  refine Met.ofW (cc := b) (maxL := nL) (ret := ret) hy rfl ?_
  intro p e s m args below meth c s₁ B hml hv
  obtain ⟨rfl, hsz, hP, hK, hD0⟩ := hv
  have hts := atoms_spec (ws := .code y b nL ret :: lk_G) B.pre
  subst hsz
  have hD : va_D (lk_A n ad s.heap.size) (lk_w n ad (el σ)) := lk_w_Dw hD0 (fun k hk => Or.inl ⟨k, hk, rfl⟩)
  have hl := lv_entry av (n := nL) hlen
  rw [lg_entry_eq]
  exact body p e s m _ below meth c _ _ ⟨B.exec, B.bytes, hml, B.returns, fun w hw => hts w (List.mem_cons_of_mem _ hw), findClass_of_methodNamed B.named, B.notSynchronized, hK⟩ ⟨hP, hD, va_S.rf⟩ (fun q h => Or.inr h) hl
end Open
section Ends
variable {p : Program} {l : Launch} {e : Env} {R : Room} {s : State} {m : MethodId} {args : Array Value} {below : List Frame} {meth : Method} {c : Code} {H : Heap} {locs : List Loc}
variable {D : va_G} {τ : Nat → ClassId} {n : Nat} {ad : Nat → Nat} {el : lk_M → Nat → va_E} {y : MethodName} {b : ByteArray} {nL : Nat} {A : Nat → Prop} {pc : Nat} {ls : Array Slot} {σ : lk_M}
theorem lk_reti {post : Int32 → lk_M → Prop} {v : Int32} (X : lk_X p s m args meth c y b nL (some .int) D τ) (h : lk_H D lk_cl A s.heap (lk_w n ad (el σ)) H locs) (hdg : decode b pc = .ok (.ireturn, 1)) (hp : post v σ) :
    W p l e R s m args below meth c H locs 0 0 (MQ below (va_Qi post (lk_Bh D τ n ad el) A) args s 0 0 A) (F0 m pc ls [.int v]) := by
  obtain ⟨hx, hb, -, hr, -, -, hlocks, hK⟩ := X
  exact W.iret hx hb hr (fun t ht hW => ⟨⟨v, σ, rfl, hp, by rw [ht]; exact h.P, va_K.moved hW.alike hK⟩, h.S.F ht⟩) h.S.2.2 hdg
theorem lk_retz {post : Int32 → lk_M → Prop} {v : Int32} (X : lk_X p s m args meth c y b nL (some .boolean) D τ) (h : lk_H D lk_cl A s.heap (lk_w n ad (el σ)) H locs) (hdg : decode b pc = .ok (.ireturn, 1)) (hv : v = 0 ∨ v = 1) (hp : post v σ) :
    W p l e R s m args below meth c H locs 0 0 (MQ below (va_Qi post (lk_Bh D τ n ad el) A) args s 0 0 A) (F0 m pc ls [.int v]) := by
  obtain ⟨hx, hb, -, hr, -, -, hlocks, hK⟩ := X
  have hn : narrow .boolean (.int v) = .int v := by rcases hv with rfl | rfl <;> decide
  exact W.zret hx hb hr hn (fun t ht hW => ⟨⟨v, σ, rfl, hp, by rw [ht]; exact h.P, va_K.moved hW.alike hK⟩, h.S.F ht⟩) h.S.2.2 hdg
theorem lk_retv {post : lk_M → Prop} (X : lk_X p s m args meth c y b nL none D τ) (h : lk_H D lk_cl A s.heap (lk_w n ad (el σ)) H locs) (hdg : decode b pc = .ok (.return_, 1)) (hp : post σ) :
    W p l e R s m args below meth c H locs 0 0 (MQ below (va_Qv post (lk_Bh D τ n ad el) A) args s 0 0 A) (F0 m pc ls []) := by
  obtain ⟨hx, hb, -, hr, -, -, hlocks, hK⟩ := X
  exact W.vret hx hb hr (fun t ht hW => ⟨⟨σ, rfl, hp, by rw [ht]; exact h.P, va_K.moved hW.alike hK⟩, h.S.F ht⟩) h.S.2.2 hdg
end Ends
section Calls
variable {p : Program} {l : Launch} {e : Env} {R : Room} {s : State} {m : MethodId} {args : Array Value} {below : List Frame} {meth : Method} {c : Code} {H : Heap} {locs : List Loc} {cells slots : Nat} {Q : State → Prop}
variable {D : va_G} {τ : Nat → ClassId} {n : Nat} {ad : Nat → Nat} {el : lk_M → Nat → va_E} {y y0 : MethodName} {b cc : ByteArray} {nL maxL index na : Nat} {ret : Option FieldType} {ty : FieldType} {fr lo : Nat} {A : Nat → Prop} {H0 : Heap} {pc : Nat} {ls : Array Slot} {σ : lk_M} {As rest : List Value} {bb : Nat}
theorem lk_blind {av : List Value} {ws : va_W} {sz : Nat} : FrameBlind (va_Pc av (lk_Pre D τ ws sz)) := fun a U g mk q => by
  obtain ⟨q0, q1, qP, qK, qD⟩ := q
  exact ⟨q0, q1, qP, va_K.moved (u := U) (U := U.calling g mk a) (Vm.Alike.refl U.vm) qK, qD⟩
theorem lk_pres {av : List Value} (hK : va_K D lk_cl (lk_tys τ) s) (h : lk_H D lk_cl A H0 (lk_w n ad (el σ)) H locs) : ∀ U : State, U.heap = H → s.WarmedH U.vm → va_Pc av (lk_Pre D τ (lk_w n ad (el σ)) H.size) av.toArray U :=
  fun U hU hW => ⟨rfl, by rw [hU], by rw [hU]; exact h.P, va_K.moved hW.alike hK, h.D.weaken (fun _ _ _ _ => trivial)⟩
/-- the words and the room of a call -/
def lk_cd (R : Room) (own : String) (index : Nat) (y : MethodName) (b : ByteArray) (maxL : Nat) (rt : Option FieldType) (fr lo na : Nat) : Prop :=
  Cond.code y b maxL rt ∈ lk_G ∧ Cond.methodLink own index y ∈ lk_G ∧ Cond.initialized y.cls ∈ lk_G ∧ (y.cls ≠ "java/lang/invoke/MethodHandle" ∧ y.cls ≠ "java/lang/invoke/VarHandle" ∧ (parseMethodDescriptor y.desc).map (fun d => d.parameters.length) = some na) ∧ fr + 1 ≤ R.frames ∧ 8 + (maxL + 11) + lo ≤ R.locals
theorem lk_cb {own : String} {rt : Option FieldType} (hts : ∀ w ∈ lk_G, w.before args s = true) (h : lk_cd R own index y b maxL rt fr lo na) : CallB R s args own index y b maxL rt (.code y b maxL rt :: lk_G) (lk_rm fr lo) 0 0 na :=
  callB_of na hts (lk_gin (fun _ h => h) h.1) rfl rfl rfl (hts _ h.2.2.1) (hts _ h.2.1) h.2.2.2.1 h.2.2.2.2
/-- where the receiver lies -/
def lk_rc (ws : va_W) (bb : Nat) (C : String) : Prop := ∃ (q0 ci : Nat) (fs : List Value) (T : u_T) (N : Nat), ws[q0]? = some (bb, .inr (ci, fs)) ∧ lk_cl[ci]? = some (C, T, N)
theorem lk_runV {C : String} {rt : Option FieldType} {mk : (Nat → Prop) → Array Value → State → Outcome → State → Prop} (X : lk_X p s m args meth c y0 cc nL ret D τ) (h : lk_H D lk_cl A H0 (lk_w n ad (el σ)) H locs)
    (hM : ∀ sz : Nat, Met l y (.code y b maxL rt :: lk_G) (lk_rm fr lo) (va_Pc (.ref bb :: As) (lk_Pre D τ (lk_w n ad (el σ)) sz)) (mk (lk_A n ad sz)) 0 0 (lk_A n ad sz))
    (hc : lk_cd R y0.cls index y b maxL rt fr lo na) (hi : Cond.instanceMethod y ∈ lk_G) (hse : Cond.selects C y y ∈ lk_G) (hrc : lk_rc (lk_w n ad (el σ)) bb C) (hn : As.length = na) (hsz : ls.size = nL) (hW : (rest.map fun v => v.category).sum ≤ 8) (hdg : decode cc pc = .ok (.invokevirtual index, 3)) (hcl : cells ≤ R.cells ∧ slots ≤ R.slots) :
    va_Run p l e R s m args below meth c H locs cells slots 0 0 (F0 m pc ls (As.reverse ++ .ref bb :: rest)) rest (mk (lk_A n ad H.size) (Value.ref bb :: As).toArray) (lk_A n ad H.size) := by
  obtain ⟨hx, hb, hml, -, hts, hown, -, hK⟩ := X
  obtain ⟨q0, ci, fs, T, N, he, hcc⟩ := hrc
  exact va_runV (As := As) (rest := rest) ⟨hx, hb, hml, hown, hts⟩ (hM H.size) ⟨lk_cb hts hc, hts _ hi, hts _ hse⟩ ⟨lk_blind, va_recv hK h.P hcc he, lk_pres hK h⟩ rfl hn hsz rfl (lv_room (rest := As.reverse ++ .ref bb :: rest) hW) hdg hcl
theorem lk_runS {rt : Option FieldType} {mk : (Nat → Prop) → Array Value → State → Outcome → State → Prop} (X : lk_X p s m args meth c y0 cc nL ret D τ) (h : lk_H D lk_cl A H0 (lk_w n ad (el σ)) H locs)
    (hM : ∀ sz : Nat, Met l y (.code y b maxL rt :: lk_G) (lk_rm fr lo) (va_Pc As (lk_Pre D τ (lk_w n ad (el σ)) sz)) (mk (lk_A n ad sz)) 0 0 (lk_A n ad sz))
    (hc : lk_cd R y0.cls index y b maxL rt fr lo na) (hi : Cond.static y ∈ lk_G) (hn : As.length = na) (hsz : ls.size = nL) (hW : (rest.map fun v => v.category).sum ≤ 8) (hdg : decode cc pc = .ok (.invokestatic index, 3)) (hcl : cells ≤ R.cells ∧ slots ≤ R.slots) :
    va_Run p l e R s m args below meth c H locs cells slots 0 0 (F0 m pc ls (As.reverse ++ rest)) rest (mk (lk_A n ad H.size) As.toArray) (lk_A n ad H.size) := by
  obtain ⟨hx, hb, hml, -, hts, hown, -, hK⟩ := X
  exact va_runS (As := As) (rest := rest) ⟨hx, hb, hml, hown, hts⟩ (hM H.size) ⟨lk_cb hts hc, hts _ hi⟩ ⟨lk_blind, lk_pres hK h⟩ rfl hn hsz rfl (lv_room (rest := As.reverse ++ rest) hW) hdg hcl
theorem lk_goi {st0 : List Value} {a : Array Value} {post : Int32 → lk_M → Prop} (hr : va_Run p l e R s m args below meth c H locs cells slots 0 0 (F0 m pc ls st0) rest (va_Qi post (lk_Bh D τ n ad el) (lk_A n ad H.size) a) (lk_A n ad H.size)) (h : lk_H D lk_cl A H0 (lk_w n ad (el σ)) H locs) (hA : ∀ q, H0.size ≤ q → A q)
    (kk : ∀ (r : Int32) (σ' : lk_M) (H1 : Heap) (locs1 : List Loc), post r σ' → lk_H D lk_cl A H0 (lk_w n ad (el σ')) H1 locs1 → W p l e R s m args below meth c H1 locs1 cells slots Q (F0 m (pc + 3) ls (.int r :: rest))) : W p l e R s m args below meth c H locs cells slots Q (F0 m pc ls st0) :=
  va_calli hr h.S (fun q _ hq => lk_A_D h.D h.S hA q hq) (lk_A_D h.D h.S hA) (fun r u t H1 locs1 ht _ hp hB _ _ hS => kk r u H1 locs1 hp ⟨by rw [← ht]; exact hB.1, lk_w_D h.D, hS⟩)
theorem lk_gov {st0 : List Value} {a : Array Value} {post : lk_M → Prop} (hr : va_Run p l e R s m args below meth c H locs cells slots 0 0 (F0 m pc ls st0) rest (va_Qv post (lk_Bh D τ n ad el) (lk_A n ad H.size) a) (lk_A n ad H.size)) (h : lk_H D lk_cl A H0 (lk_w n ad (el σ)) H locs) (hA : ∀ q, H0.size ≤ q → A q)
    (kk : ∀ (σ' : lk_M) (H1 : Heap) (locs1 : List Loc), post σ' → lk_H D lk_cl A H0 (lk_w n ad (el σ')) H1 locs1 → W p l e R s m args below meth c H1 locs1 cells slots Q (F0 m (pc + 3) ls rest)) : W p l e R s m args below meth c H locs cells slots Q (F0 m pc ls st0) :=
  va_callv hr h.S (fun q _ hq => lk_A_D h.D h.S hA q hq) (lk_A_D h.D h.S hA) (fun u t H1 locs1 ht _ hp hB _ _ hS => kk u H1 locs1 hp ⟨by rw [← ht]; exact hB.1, lk_w_D h.D, hS⟩)
theorem lk_goq {st0 : List Value} {a : Array Value} {post : Option Nat → lk_M → Prop} (hr : va_Run p l e R s m args below meth c H locs cells slots 0 0 (F0 m pc ls st0) rest (va_Qq post (lk_Bh D τ n ad el) (lk_A n ad H.size) a) (lk_A n ad H.size)) (h : lk_H D lk_cl A H0 (lk_w n ad (el σ)) H locs) (hA : ∀ q, H0.size ≤ q → A q)
    (kk : ∀ (r : Option Nat) (σ' : lk_M) (H1 : Heap) (locs1 : List Loc), post r σ' → lk_H D lk_cl A H0 (lk_w n ad (el σ')) H1 locs1 → W p l e R s m args below meth c H1 locs1 cells slots Q (F0 m (pc + 3) ls (va_rf r :: rest))) : W p l e R s m args below meth c H locs cells slots Q (F0 m pc ls st0) :=
  va_callq hr h.S (fun q _ hq => lk_A_D h.D h.S hA q hq) (lk_A_D h.D h.S hA) (fun r u t H1 locs1 ht _ hp hB _ _ hS => kk r u H1 locs1 hp ⟨by rw [← ht]; exact hB.1, lk_w_D h.D, hS⟩)
end Calls
end
section
/-! the reference's world: its object (0), its arrays (1 .. 24: the fields 0 .. 23 of the memory) -/
def lk_sz (k : Nat) : Nat := ([24, 24, 24, 24, 24, 24, 24, 120, 120, 24, 12, 4, 4, 4, 4, 4, 4, 4, 4, 128, 4, 4, 16, 120] : List Nat).getD k 0
def lk_mf (ad : Nat → Nat) (M : lk_M) : List Value := [.int (M 24 2), .ref (ad 1), .ref (ad 2), .ref (ad 3), .ref (ad 4), .ref (ad 5), .ref (ad 6), .ref (ad 7), .ref (ad 8), .ref (ad 9), .ref (ad 10), .int (M 24 0), .int (M 24 1), .ref (ad 11), .ref (ad 12), .ref (ad 13), .ref (ad 14), .ref (ad 15), .ref (ad 16), .ref (ad 17), .ref (ad 18), .ref (ad 19), .ref (ad 20), .ref (ad 21), .ref (ad 22), .ref (ad 23), .ref (ad 24)]
def lk_me (τ : Nat → ClassId) (ad : Nat → Nat) (M : lk_M) : Nat → va_E := fun k => if k = 0 then .inr (4, lk_mf ad M) else .inl (if k = 12 ∨ k = 21 then τ 1 else τ 0, lk_sz (k - 1), .inl (M (k - 1)))
theorem lk_me_0 (τ : Nat → ClassId) (ad : Nat → Nat) (M : lk_M) : lk_me τ ad M 0 = .inr (4, lk_mf ad M) := rfl
theorem lk_me_s (τ : Nat → ClassId) (ad : Nat → Nat) (M : lk_M) (k : Nat) : lk_me τ ad M (k + 1) = .inl (if k = 11 ∨ k = 20 then τ 1 else τ 0, lk_sz k, .inl (M k)) := by
  unfold lk_me
  rw [if_neg (by omega), Nat.add_sub_cancel]
  congr 2
  by_cases h : k = 11 ∨ k = 20
  · rw [if_pos h, if_pos (by omega)]
  · rw [if_neg h, if_neg (by omega)]
/-- an array's place is written -/
theorem lk_me_up (τ : Nat → ClassId) (ad : Nat → Nat) (M : lk_M) {k : Nat} (hk : k < 24) (i : Nat) (v : Int32) : va_up (lk_me τ ad M) (k + 1) (.inl (if k = 11 ∨ k = 20 then τ 1 else τ 0, lk_sz k, .inl (upd (M k) i v))) = lk_me τ ad (lk_st M k i v) := by
  funext j
  cases j with
  | zero =>
    rw [va_up_ne _ _ (by omega), lk_me_0, lk_me_0]
    unfold lk_mf
    have e : ∀ x, lk_st M k i v 24 x = M 24 x := fun x => by rw [lk_st_eq, if_neg (by omega)]
    rw [e, e, e]
  | succ j =>
    by_cases h : j = k
    · subst h
      rw [va_up_self, lk_me_s]
      unfold lk_st
      rw [va_up_self]
    · rw [va_up_ne _ _ (by omega), lk_me_s, lk_me_s]
      unfold lk_st
      rw [va_up_ne _ _ h]
/-- a number of the object is written -/
theorem lk_me_up0 (τ : Nat → ClassId) (ad : Nat → Nat) (M : lk_M) (i : Nat) (v : Int32) : lk_w 25 ad (va_up (lk_me τ ad M) 0 (.inr (4, lk_mf ad (lk_st M 24 i v)))) = lk_w 25 ad (lk_me τ ad (lk_st M 24 i v)) := by
  apply lk_w_congr
  intro j hj
  cases j with
  | zero => rw [va_up_self, lk_me_0]
  | succ j =>
    rw [va_up_ne _ _ (by omega), lk_me_s, lk_me_s]
    unfold lk_st
    rw [va_up_ne _ _ (by omega)]
section MoRows
variable {p : Program} {l : Launch} {e : Env} {R : Room} {s : State} {m : MethodId} {args : Array Value} {below : List Frame} {meth : Method} {c : Code} {H : Heap} {locs : List Loc} {cells slots : Nat} {Q : State → Prop}
variable {D : va_G} {τ : Nat → ClassId} {ad : Nat → Nat} {y : MethodName} {cc : ByteArray} {nL index : Nat} {ret : Option FieldType} {A : Nat → Prop} {H0 : Heap} {pc : Nat} {ls : Array Slot} {M : lk_M} {rest : List Value}
/-- a field of the object is read -/
theorem mo_get (X : lk_X p s m args meth c y cc nL ret D τ) (hy : y.cls = R_MO) (h : lk_H D lk_cl A H0 (lk_w 25 ad (lk_me τ ad M)) H locs) (k : Nat) (hk : k < 27) {v : Value} (hv : (lk_mf ad M)[k]? = some v) (hg : Cond.fieldLink R_MO index "LinkTreeModel" (T_MO k).2.1 (T_MO k).2.2.1 ∈ lk_G) (hd : (T_MO k).1 = "LinkTreeModel") (hdg : decode cc pc = .ok (.getfield index, 3))
    (kk : W p l e R s m args below meth c H locs cells slots Q (F0 m (pc + 3) ls (v :: rest))) : W p l e R s m args below meth c H locs cells slots Q (F0 m pc ls (.ref (ad 0) :: rest)) := by
  obtain ⟨hx, hb, -, -, hts, hown, -, hK⟩ := X
  rw [hy] at hown
  exact va_get (D := D) (ci := 4) (C := R_MO) (T := T_MO) (N := 27) hx hb hts gl_MO hown hK h.P 0 (lk_w_get (by omega)) rfl k hk (hts _ hg) (fun x9 h9 => by rw [hd] at h9; exact h9) hv hdg kk
/-- an int array's place is read -/
theorem mo_ald (X : lk_X p s m args meth c y cc nL ret D τ) (h : lk_H D lk_cl A H0 (lk_w 25 ad (lk_me τ ad M)) H locs) (k N : Nat) (hN : lk_sz k = N) (hk : k < 24 ∧ k ≠ 11 ∧ k ≠ 20) {j : Nat} (hj : j < N) (hN2 : N < 200) (hdg : decode cc pc = .ok (.iaload, 1))
    (kk : W p l e R s m args below meth c H locs cells slots Q (F0 m (pc + 1) ls (.int (M k j) :: rest))) : W p l e R s m args below meth c H locs cells slots Q (F0 m pc ls (.int (nI j) :: .ref (ad (k + 1)) :: rest)) := by
  obtain ⟨hx, hb, -, -, hts, hown, -, hK⟩ := X
  subst hN
  have he : (lk_w 25 ad (lk_me τ ad M))[k + 1]? = some (ad (k + 1), .inl (τ 0, lk_sz k, .inl (M k))) := by
    rw [lk_w_get (by omega), lk_me_s, if_neg (by omega)]
  refine va_iald hx hb hK h.P (k + 1) 0 he rfl (vp_in_nI hj (by omega)) hdg ?_
  rw [nI_clamp (by omega)]
  exact kk
theorem mo_zald (X : lk_X p s m args meth c y cc nL ret D τ) (h : lk_H D lk_cl A H0 (lk_w 25 ad (lk_me τ ad M)) H locs) (k : Nat) (hk : k = 11 ∨ k = 20) {j : Nat} (hj : j < 4) (hdg : decode cc pc = .ok (.baload, 1))
    (kk : W p l e R s m args below meth c H locs cells slots Q (F0 m (pc + 1) ls (.int (M k j) :: rest))) : W p l e R s m args below meth c H locs cells slots Q (F0 m pc ls (.int (nI j) :: .ref (ad (k + 1)) :: rest)) := by
  obtain ⟨hx, hb, -, -, hts, hown, -, hK⟩ := X
  have he : (lk_w 25 ad (lk_me τ ad M))[k + 1]? = some (ad (k + 1), .inl (τ 1, 4, .inl (M k))) := by
    rw [lk_w_get (by omega), lk_me_s, if_pos hk]
    rcases hk with rfl | rfl <;> rfl
  refine va_zald hx hb hK h.P (k + 1) 1 he rfl (vp_in_nI hj (by omega)) hdg ?_
  rw [nI_clamp (by omega)]
  exact kk
/-- an int array's place is written -/
theorem mo_ast (X : lk_X p s m args meth c y cc nL ret D τ) (h : lk_H D lk_cl A H0 (lk_w 25 ad (lk_me τ ad M)) H locs) (k N : Nat) (hN : lk_sz k = N) (hk : k < 24 ∧ k ≠ 11 ∧ k ≠ 20) {j : Nat} {v : Int32} (hj : j < N) (hN2 : N < 200) (hdg : decode cc pc = .ok (.iastore, 1))
    (kk : ∀ (H1 : Heap) (locs1 : List Loc), lk_H D lk_cl A H0 (lk_w 25 ad (lk_me τ ad (lk_st M k j v))) H1 locs1 → W p l e R s m args below meth c H1 locs1 cells slots Q (F0 m (pc + 1) ls rest)) : W p l e R s m args below meth c H locs cells slots Q (F0 m pc ls (.int v :: .int (nI j) :: .ref (ad (k + 1)) :: rest)) := by
  obtain ⟨hx, hb, -, -, hts, hown, -, hK⟩ := X
  subst hN
  have he : (lk_w 25 ad (lk_me τ ad M))[k + 1]? = some (ad (k + 1), .inl (τ 0, lk_sz k, .inl (M k))) := by
    rw [lk_w_get (by omega), lk_me_s, if_neg (by omega)]
  refine va_iast hx hb hK h.P h.D h.S (k + 1) 0 he rfl (vp_in_nI hj (by omega)) hdg (fun H1 locs1 hP hD hS => ?_)
  rw [nI_clamp (by omega)] at hP hD
  have e := lk_me_up τ ad M (k := k) hk.1 j v
  rw [if_neg (by omega)] at e
  rw [lk_w_set (by omega), e] at hP hD
  exact kk H1 locs1 ⟨hP, hD, hS⟩
theorem mo_zast (X : lk_X p s m args meth c y cc nL ret D τ) (h : lk_H D lk_cl A H0 (lk_w 25 ad (lk_me τ ad M)) H locs) (k : Nat) (hk : k = 11 ∨ k = 20) {j : Nat} {v : Int32} (hv : v = 0 ∨ v = 1) (hj : j < 4) (hdg : decode cc pc = .ok (.bastore, 1))
    (kk : ∀ (H1 : Heap) (locs1 : List Loc), lk_H D lk_cl A H0 (lk_w 25 ad (lk_me τ ad (lk_st M k j v))) H1 locs1 → W p l e R s m args below meth c H1 locs1 cells slots Q (F0 m (pc + 1) ls rest)) : W p l e R s m args below meth c H locs cells slots Q (F0 m pc ls (.int v :: .int (nI j) :: .ref (ad (k + 1)) :: rest)) := by
  obtain ⟨hx, hb, -, -, hts, hown, -, hK⟩ := X
  have he : (lk_w 25 ad (lk_me τ ad M))[k + 1]? = some (ad (k + 1), .inl (τ 1, 4, .inl (M k))) := by
    rw [lk_w_get (by omega), lk_me_s, if_pos hk]
    rcases hk with rfl | rfl <;> rfl
  refine va_zast hx hb hK h.P h.D h.S (k + 1) 1 he rfl (vp_in_nI hj (by omega)) hdg (fun H1 locs1 hP hD hS => ?_)
  have hn : vp_nar .boolean v = v := by rcases hv with rfl | rfl <;> decide
  rw [nI_clamp (by omega), hn] at hP hD
  have e := lk_me_up τ ad M (k := k) (by omega) j v
  rw [if_pos hk, show lk_sz k = 4 by rcases hk with rfl | rfl <;> rfl] at e
  rw [lk_w_set (by omega), e] at hP hD
  exact kk H1 locs1 ⟨hP, hD, hS⟩
/-- one of the object's three numbers is written -/
theorem mo_put (X : lk_X p s m args meth c y cc nL ret D τ) (hy : y.cls = R_MO) (h : lk_H D lk_cl A H0 (lk_w 25 ad (lk_me τ ad M)) H locs) (k i : Nat) (hki : (k = 0 ∧ i = 2) ∨ (k = 11 ∧ i = 0) ∨ (k = 12 ∧ i = 1)) {v : Int32} (hg : Cond.fieldLink R_MO index "LinkTreeModel" (T_MO k).2.1 (T_MO k).2.2.1 ∈ lk_G) (hdg : decode cc pc = .ok (.putfield index, 3))
    (kk : ∀ (H1 : Heap) (locs1 : List Loc), lk_H D lk_cl A H0 (lk_w 25 ad (lk_me τ ad (lk_st M 24 i v))) H1 locs1 → W p l e R s m args below meth c H1 locs1 cells slots Q (F0 m (pc + 3) ls rest)) : W p l e R s m args below meth c H locs cells slots Q (F0 m pc ls (.int v :: .ref (ad 0) :: rest)) := by
  obtain ⟨hx, hb, -, -, hts, hown, -, hK⟩ := X
  rw [hy] at hown
  have hset : (lk_mf ad M).set k (.int v) = lk_mf ad (lk_st M 24 i v) := by
    rcases hki with ⟨rfl, rfl⟩ | ⟨rfl, rfl⟩ | ⟨rfl, rfl⟩ <;> simp [lk_mf, lk_st_eq]
  have hd : (T_MO k).1 = "LinkTreeModel" ∧ (T_MO k).2.2.2 = false ∧ parseFieldDescriptor (T_MO k).2.2.1 = some .int ∧ k < 27 := by
    rcases hki with ⟨rfl, rfl⟩ | ⟨rfl, rfl⟩ | ⟨rfl, rfl⟩ <;> decide +kernel
  refine va_put (D := D) (ci := 4) (v := .int v) (ty := .int) (C := R_MO) (T := T_MO) (N := 27) hx hb hts gl_MO ty_MO ty_MO_ok nm_MO hown hK h.P h.D h.S 0 (lk_w_get (by omega)) rfl k hd.2.2.2 (hts _ hg) (fun x9 h9 => by rw [hd.1] at h9; exact h9) hd.2.1 hd.2.2.1 rfl rfl (by show k < 27; exact hd.2.2.2) hdg (fun H1 locs1 hP hD hS => ?_)
  rw [lk_w_set (by omega), hset, lk_me_up0] at hP hD
  exact kk H1 locs1 ⟨hP, hD, hS⟩
end MoRows
end
section
/-! rows with numbers by their names -/
theorem lk_st_f {σ : lk_M} {a i b j : Nat} {v : Int32} (h : b ≠ a) : lk_st σ a i v b j = σ b j := by rw [lk_st_eq, if_neg (fun z => h z.1)]
theorem lk_st_s {σ : lk_M} {a i : Nat} {v : Int32} : lk_st σ a i v a i = v := by rw [lk_st_eq, if_pos ⟨rfl, rfl⟩]
theorem lk_st_p {σ : lk_M} {a i j : Nat} {v : Int32} (h : j ≠ i) : lk_st σ a i v a j = σ a j := by rw [lk_st_eq, if_neg (fun z => h z.2)]
section NRows
variable {p : Program} {l : Launch} {e : Env} {R : Room} {s : State} {m : MethodId} {args : Array Value} {below : List Frame} {meth : Method} {c : Code} {H : Heap} {locs : List Loc} {cells slots : Nat} {Q : State → Prop}
variable {cc : ByteArray} {pc : Nat} {ls : Array Slot} {rest : List Value} {x y tgt : Nat} {off : Int}
theorem lk_cN_eq (hx : p.tables.exec = Jvm.exec) (hb : c.code = cc) (h1 : x < 2 ^ 31) (h2 : y < 2 ^ 31) (hdg : decode cc pc = .ok (.if_icmp .eq off, 3)) (ht : (pc : Int) + off = (tgt : Int)) (kt : x = y → W p l e R s m args below meth c H locs cells slots Q (F0 m tgt ls rest)) (kf : x ≠ y → W p l e R s m args below meth c H locs cells slots Q (F0 m (pc + 3) ls rest)) : W p l e R s m args below meth c H locs cells slots Q (F0 m pc ls (.int (nI y) :: .int (nI x) :: rest)) :=
  lv_icmp_eq hx hb hdg ht (fun h => kt ((nI_eq h1 h2).mp h)) (fun h => kf (fun z => h ((nI_eq h1 h2).mpr z)))
theorem lk_cN_ne (hx : p.tables.exec = Jvm.exec) (hb : c.code = cc) (h1 : x < 2 ^ 31) (h2 : y < 2 ^ 31) (hdg : decode cc pc = .ok (.if_icmp .ne off, 3)) (ht : (pc : Int) + off = (tgt : Int)) (kt : x ≠ y → W p l e R s m args below meth c H locs cells slots Q (F0 m tgt ls rest)) (kf : x = y → W p l e R s m args below meth c H locs cells slots Q (F0 m (pc + 3) ls rest)) : W p l e R s m args below meth c H locs cells slots Q (F0 m pc ls (.int (nI y) :: .int (nI x) :: rest)) :=
  lv_icmp_ne hx hb hdg ht (fun h => kt (fun z => h ((nI_eq h1 h2).mpr z))) (fun h => kf ((nI_eq h1 h2).mp h))
theorem lk_cN_lt (hx : p.tables.exec = Jvm.exec) (hb : c.code = cc) (h1 : x < 2 ^ 31) (h2 : y < 2 ^ 31) (hdg : decode cc pc = .ok (.if_icmp .lt off, 3)) (ht : (pc : Int) + off = (tgt : Int)) (kt : x < y → W p l e R s m args below meth c H locs cells slots Q (F0 m tgt ls rest)) (kf : y ≤ x → W p l e R s m args below meth c H locs cells slots Q (F0 m (pc + 3) ls rest)) : W p l e R s m args below meth c H locs cells slots Q (F0 m pc ls (.int (nI y) :: .int (nI x) :: rest)) :=
  lv_icmp_lt hx hb hdg ht (fun h => kt ((nI_ltI h1 h2).mp h)) (fun h => kf (Nat.le_of_not_lt (fun z => h ((nI_ltI h1 h2).mpr z))))
theorem lk_cN_ge (hx : p.tables.exec = Jvm.exec) (hb : c.code = cc) (h1 : x < 2 ^ 31) (h2 : y < 2 ^ 31) (hdg : decode cc pc = .ok (.if_icmp .ge off, 3)) (ht : (pc : Int) + off = (tgt : Int)) (kt : y ≤ x → W p l e R s m args below meth c H locs cells slots Q (F0 m tgt ls rest)) (kf : x < y → W p l e R s m args below meth c H locs cells slots Q (F0 m (pc + 3) ls rest)) : W p l e R s m args below meth c H locs cells slots Q (F0 m pc ls (.int (nI y) :: .int (nI x) :: rest)) :=
  lv_icmp_ge hx hb hdg ht (fun h => kt ((nI_leI h2 h1).mp h)) (fun h => kf (Nat.lt_of_not_le (fun z => h ((nI_leI h2 h1).mpr z))))
theorem lk_cN_gt (hx : p.tables.exec = Jvm.exec) (hb : c.code = cc) (h1 : x < 2 ^ 31) (h2 : y < 2 ^ 31) (hdg : decode cc pc = .ok (.if_icmp .gt off, 3)) (ht : (pc : Int) + off = (tgt : Int)) (kt : y < x → W p l e R s m args below meth c H locs cells slots Q (F0 m tgt ls rest)) (kf : x ≤ y → W p l e R s m args below meth c H locs cells slots Q (F0 m (pc + 3) ls rest)) : W p l e R s m args below meth c H locs cells slots Q (F0 m pc ls (.int (nI y) :: .int (nI x) :: rest)) :=
  lv_icmp_gt hx hb hdg ht (fun h => kt ((nI_ltI h2 h1).mp h)) (fun h => kf (Nat.le_of_not_lt (fun z => h ((nI_ltI h2 h1).mpr z))))
theorem lk_cN_le (hx : p.tables.exec = Jvm.exec) (hb : c.code = cc) (h1 : x < 2 ^ 31) (h2 : y < 2 ^ 31) (hdg : decode cc pc = .ok (.if_icmp .le off, 3)) (ht : (pc : Int) + off = (tgt : Int)) (kt : x ≤ y → W p l e R s m args below meth c H locs cells slots Q (F0 m tgt ls rest)) (kf : y < x → W p l e R s m args below meth c H locs cells slots Q (F0 m (pc + 3) ls rest)) : W p l e R s m args below meth c H locs cells slots Q (F0 m pc ls (.int (nI y) :: .int (nI x) :: rest)) :=
  lv_icmp_le hx hb hdg ht (fun h => kt ((nI_leI h1 h2).mp h)) (fun h => kf (Nat.lt_of_not_le (fun z => h ((nI_leI h1 h2).mpr z))))
end NRows
section Open2
variable {l : Launch} {D : va_G} {τ : Nat → ClassId} {n : Nat} {ad : Nat → Nat} {el : lk_M → Nat → va_E} {y : MethodName} {b : ByteArray} {nL : Nat} {ty : FieldType} {fr lo : Nat} {av : List Value} {σ : lk_M}
theorem lk_openi {post : Int32 → lk_M → Prop} (hy : plainName y.cls = true) (hlen : (lg_sl av).length ≤ nL)
    (body : ∀ (p : Program) (e : Env) (s : State) (m : MethodId) (args : Array Value) (below : List Frame) (meth : Method) (c : Code) (ls : Array Slot) (A : Nat → Prop), lk_X p s m args meth c y b nL (some ty) D τ → lk_H D lk_cl A s.heap (lk_w n ad (el σ)) s.heap [] → (∀ q, s.heap.size ≤ q → A q) → lv_has ls nL (lv_args 0 av) →
      W p l e (lk_rm fr lo) s m args below meth c s.heap [] 0 0 (MQ below (va_Qi post (lk_Bh D τ n ad el) A) args s 0 0 A) (F0 m 0 ls [])) : lk_Ci l D τ n ad el y b nL ty fr lo av σ post :=
  lk_open (mk := fun A => va_Qi post (lk_Bh D τ n ad el) A) hy hlen body
theorem lk_openv {post : lk_M → Prop} (hy : plainName y.cls = true) (hlen : (lg_sl av).length ≤ nL)
    (body : ∀ (p : Program) (e : Env) (s : State) (m : MethodId) (args : Array Value) (below : List Frame) (meth : Method) (c : Code) (ls : Array Slot) (A : Nat → Prop), lk_X p s m args meth c y b nL none D τ → lk_H D lk_cl A s.heap (lk_w n ad (el σ)) s.heap [] → (∀ q, s.heap.size ≤ q → A q) → lv_has ls nL (lv_args 0 av) →
      W p l e (lk_rm fr lo) s m args below meth c s.heap [] 0 0 (MQ below (va_Qv post (lk_Bh D τ n ad el) A) args s 0 0 A) (F0 m 0 ls [])) : lk_Cv l D τ n ad el y b nL fr lo av σ post :=
  lk_open (mk := fun A => va_Qv post (lk_Bh D τ n ad el) A) hy hlen body
theorem lk_openq {post : Option Nat → lk_M → Prop} (hy : plainName y.cls = true) (hlen : (lg_sl av).length ≤ nL)
    (body : ∀ (p : Program) (e : Env) (s : State) (m : MethodId) (args : Array Value) (below : List Frame) (meth : Method) (c : Code) (ls : Array Slot) (A : Nat → Prop), lk_X p s m args meth c y b nL (some ty) D τ → lk_H D lk_cl A s.heap (lk_w n ad (el σ)) s.heap [] → (∀ q, s.heap.size ≤ q → A q) → lv_has ls nL (lv_args 0 av) →
      W p l e (lk_rm fr lo) s m args below meth c s.heap [] 0 0 (MQ below (va_Qq post (lk_Bh D τ n ad el) A) args s 0 0 A) (F0 m 0 ls [])) : lk_Cq l D τ n ad el y b nL ty fr lo av σ post :=
  lk_open (mk := fun A => va_Qq post (lk_Bh D τ n ad el) A) hy hlen body
end Open2
end
section
set_option maxRecDepth 20000 in
theorem c_MO_thrown (l : Launch) (D : va_G) (τ : Nat → ClassId) (ad : Nat → Nat) (M : lk_M) : lk_Ci l D τ 25 ad (lk_me τ ad) y_MO_thrown b_MO_thrown 1 (.int) 0 0 [.ref (ad 0)] M (fun r M1 => r = M 24 2 ∧ M1 = M) := by
  refine lk_openi (by decide +kernel) (Nat.le_of_ble_eq_true rfl) ?_
  intro pg en s m args below meth cd ls A X h hA hl
  obtain ⟨hx, hb, -⟩ := id X
  have hl : lv_has ls 1 [(0, .ref (ad 0))] := hl
  refine lv_aload_n hx hb d_MO_thrown_0 rfl (lv_at hl 0 rfl) ?_
  refine mo_get X rfl h 0 (by decide) rfl gf_MO_83 rfl d_MO_thrown_1 ?_
  exact lk_reti X h d_MO_thrown_4 (⟨rfl, rfl⟩)
set_option maxRecDepth 20000 in
theorem c_MO_root (l : Launch) (D : va_G) (τ : Nat → ClassId) (ad : Nat → Nat) (M : lk_M) : lk_Ci l D τ 25 ad (lk_me τ ad) y_MO_root b_MO_root 1 (.int) 0 0 [.ref (ad 0)] M (fun r M1 => r = M 24 0 ∧ M1 = lk_st M 24 2 0) := by
  refine lk_openi (by decide +kernel) (Nat.le_of_ble_eq_true rfl) ?_
  intro pg en s m args below meth cd ls A X h hA hl
  obtain ⟨hx, hb, -⟩ := id X
  have hl : lv_has ls 1 [(0, .ref (ad 0))] := hl
  refine lv_aload_n hx hb d_MO_root_0 rfl (lv_at hl 0 rfl) ?_
  refine lv_iconst (v := 0) hx hb d_MO_root_1 (by decide) ?_
  refine mo_put X rfl h 0 2 (by decide) gf_MO_83 d_MO_root_2 (fun H locs h => ?_)
  refine lv_aload_n hx hb d_MO_root_5 rfl (lv_at hl 0 rfl) ?_
  refine mo_get X rfl h 11 (by decide) rfl gf_MO_108 rfl d_MO_root_6 ?_
  refine lk_top (M 24 0) (lk_st_p (by omega)) ?_
  exact lk_reti X h d_MO_root_9 (⟨rfl, rfl⟩)
set_option maxRecDepth 20000 in
theorem c_MO_queued (l : Launch) (D : va_G) (τ : Nat → ClassId) (ad : Nat → Nat) (M : lk_M) : lk_Ci l D τ 25 ad (lk_me τ ad) y_MO_queued b_MO_queued 1 (.int) 0 0 [.ref (ad 0)] M (fun r M1 => r = M 24 1 ∧ M1 = lk_st M 24 2 0) := by
  refine lk_openi (by decide +kernel) (Nat.le_of_ble_eq_true rfl) ?_
  intro pg en s m args below meth cd ls A X h hA hl
  obtain ⟨hx, hb, -⟩ := id X
  have hl : lv_has ls 1 [(0, .ref (ad 0))] := hl
  refine lv_aload_n hx hb d_MO_queued_0 rfl (lv_at hl 0 rfl) ?_
  refine lv_iconst (v := 0) hx hb d_MO_queued_1 (by decide) ?_
  refine mo_put X rfl h 0 2 (by decide) gf_MO_83 d_MO_queued_2 (fun H locs h => ?_)
  refine lv_aload_n hx hb d_MO_queued_5 rfl (lv_at hl 0 rfl) ?_
  refine mo_get X rfl h 12 (by decide) rfl gf_MO_91 rfl d_MO_queued_6 ?_
  refine lk_top (M 24 1) (lk_st_p (by omega)) ?_
  exact lk_reti X h d_MO_queued_9 (⟨rfl, rfl⟩)
set_option maxRecDepth 20000 in
theorem c_MO_within (l : Launch) (D : va_G) (τ : Nat → ClassId) (ad : Nat → Nat) (M : lk_M) (v lo hi : Int32) : lk_Ci l D τ 25 ad (lk_me τ ad) y_MO_within b_MO_within 3 (.boolean) 0 0 [.int v, .int lo, .int hi] M (fun r M1 => (r = if lo ≤ v ∧ v ≤ hi then 1 else 0) ∧ M1 = M) := by
  refine lk_openi (by decide +kernel) (Nat.le_of_ble_eq_true rfl) ?_
  intro pg en s m args below meth cd ls A X h hA hl
  obtain ⟨hx, hb, -⟩ := id X
  have hl : lv_has ls 3 [(0, .int v), (1, .int lo), (2, .int hi)] := hl
  refine lv_iload_n hx hb d_MO_within_0 rfl (lv_at hl 0 rfl) ?_
  refine lv_iload_n hx hb d_MO_within_1 rfl (lv_at hl 1 rfl) ?_
  refine lv_icmp_lt (tgt := 14) hx hb d_MO_within_2 (by decide) (fun h1 => ?_) (fun h1 => ?_)
  · refine lv_iconst (v := 0) hx hb d_MO_within_14 (by decide) ?_
    exact lk_retz X h d_MO_within_15 (by decide) (⟨(if_neg (fun z => absurd h1 (Int32.not_lt.mpr z.1))).symm, rfl⟩)
  · refine lv_iload_n hx hb d_MO_within_5 rfl (lv_at hl 0 rfl) ?_
    refine lv_iload_n hx hb d_MO_within_6 rfl (lv_at hl 2 rfl) ?_
    refine lv_icmp_gt (tgt := 14) hx hb d_MO_within_7 (by decide) (fun h2 => ?_) (fun h2 => ?_)
    · refine lv_iconst (v := 0) hx hb d_MO_within_14 (by decide) ?_
      exact lk_retz X h d_MO_within_15 (by decide) (⟨(if_neg (fun z => absurd h2 (Int32.not_lt.mpr z.2))).symm, rfl⟩)
    · refine lv_iconst (v := 1) hx hb d_MO_within_10 (by decide) ?_
      refine lv_goto (tgt := 15) hx hb d_MO_within_11 (by decide) ?_
      exact lk_retz X h d_MO_within_15 (by decide) (⟨(if_pos ⟨Int32.not_lt.mp h1, Int32.not_lt.mp h2⟩).symm, rfl⟩)
set_option maxRecDepth 20000 in
theorem c_MO_fails (l : Launch) (D : va_G) (τ : Nat → ClassId) (ad : Nat → Nat) (M : lk_M) (v k : Int32) (hv : v = 0 ∨ v = 1) : lk_Ci l D τ 25 ad (lk_me τ ad) y_MO_fails b_MO_fails 3 (.boolean) 0 0 [.ref (ad 0), .int v, .int k] M (fun r M1 => r = v ∧ M1 = lk_st M 24 2 (if v = 0 then 0 else k)) := by
  refine lk_openi (by decide +kernel) (Nat.le_of_ble_eq_true rfl) ?_
  intro pg en s m args below meth cd ls A X h hA hl
  obtain ⟨hx, hb, -⟩ := id X
  have hl : lv_has ls 3 [(0, .ref (ad 0)), (1, .int v), (2, .int k)] := hl
  refine lv_aload_n hx hb d_MO_fails_0 rfl (lv_at hl 0 rfl) ?_
  refine lv_iload_n hx hb d_MO_fails_1 rfl (lv_at hl 1 rfl) ?_
  refine lv_if_eq (tgt := 9) hx hb d_MO_fails_2 (by decide) (fun h1 => ?_) (fun h1 => ?_)
  · refine lv_iconst (v := 0) hx hb d_MO_fails_9 (by decide) ?_
    refine mo_put X rfl h 0 2 (by decide) gf_MO_83 d_MO_fails_10 (fun H locs h => ?_)
    refine lv_iload_n hx hb d_MO_fails_13 rfl (lv_at hl 1 rfl) ?_
    exact lk_retz X h d_MO_fails_14 hv (⟨rfl, by rw [if_pos h1]⟩)
  · refine lv_iload_n hx hb d_MO_fails_5 rfl (lv_at hl 2 rfl) ?_
    refine lv_goto (tgt := 10) hx hb d_MO_fails_6 (by decide) ?_
    refine mo_put X rfl h 0 2 (by decide) gf_MO_83 d_MO_fails_10 (fun H locs h => ?_)
    refine lv_iload_n hx hb d_MO_fails_13 rfl (lv_at hl 1 rfl) ?_
    exact lk_retz X h d_MO_fails_14 hv (⟨rfl, by rw [if_neg h1]⟩)
end
section
theorem lk_b01 (P : Prop) [Decidable P] : (if P then (1 : Int32) else 0) = 0 ∨ (if P then (1 : Int32) else 0) = 1 := by
  by_cases h : P
  · rw [if_pos h]; exact Or.inr rfl
  · rw [if_neg h]; exact Or.inl rfl
theorem lk_if0 {P : Prop} [Decidable P] (h : (if P then (1 : Int32) else 0) = 0) : ¬ P := fun z => by rw [if_pos z] at h; exact absurd h (by decide)
theorem lk_if1 {P : Prop} [Decidable P] (h : ¬ (if P then (1 : Int32) else 0) = 0) : P := by
  by_cases z : P
  · exact z
  · rw [if_neg z] at h; exact absurd rfl h
theorem lk_app_eq (M : lk_M) (p n : Nat) (a b : Int32) : lk_st (lk_st (lk_st M 7 (5 * p + n) a) 8 (5 * p + n) b) 5 p (nI (n + 1)) = lk_ins M p n n a b := by
  funext f i
  unfold lk_ins
  simp only [lk_st_eq, lk_up_eq, lk_shR, upd]
  by_cases h5 : f = 5
  · subst h5; simp
  · by_cases h8 : f = 8
    · subst h8; simp; by_cases hi : i = 5 * p + n
      · simp [hi]
      · simp [hi]; omega
    · by_cases h7 : f = 7
      · subst h7; simp; by_cases hi : i = 5 * p + n
        · simp [hi]
        · simp [hi]; omega
      · simp [h5, h8, h7]
set_option maxRecDepth 20000 in
theorem c_MO_isTask (l : Launch) (D : va_G) (τ : Nat → ClassId) (ad : Nat → Nat) (M : lk_M) (t : Int32) : lk_Ci l D τ 25 ad (lk_me τ ad) y_MO_isTask b_MO_isTask 2 (.boolean) 1 22 [.ref (ad 0), .int t] M (fun r M1 => (r = if 0 ≤ t ∧ t ≤ 3 then 1 else 0) ∧ M1 = M) := by
  refine lk_openi (by decide +kernel) (Nat.le_of_ble_eq_true rfl) ?_
  intro pg en s m args below meth cd ls A X h hA hl
  obtain ⟨hx, hb, -⟩ := id X
  have hl : lv_has ls 2 [(0, .ref (ad 0)), (1, .int t)] := hl
  refine lv_iload_n hx hb d_MO_isTask_0 rfl (lv_at hl 1 rfl) ?_
  refine lv_iconst (v := 0) hx hb d_MO_isTask_1 (by decide) ?_
  refine lv_iconst (v := 3) hx hb d_MO_isTask_2 (by decide) ?_
  refine lk_goi (lk_runS (As := [.int t, .int 0, .int 3]) X h (c_MO_within l D τ ad M t 0 3) ⟨gc_MO_within, gm_MO_101, gn_MO, gd_MO_within, by decide, by decide⟩ gt_MO_within rfl hl.1 (Nat.le_of_ble_eq_true rfl) d_MO_isTask_3 ⟨Nat.zero_le _, Nat.zero_le _⟩) h hA (fun r3 σ3 H locs hk9 h => ?_)
  rw [hk9.2] at h
  rw [hk9.1]
  exact lk_retz X h d_MO_isTask_6 (lk_b01 _) (⟨rfl, rfl⟩)
set_option maxRecDepth 20000 in
theorem c_MO_make (l : Launch) (D : va_G) (τ : Nat → ClassId) (ad : Nat → Nat) (M : lk_M) (p : Nat) (hp : p < 24) (x lo hi r : Int32) : lk_Cv l D τ 25 ad (lk_me τ ad) y_MO_make b_MO_make 6 0 0 [.ref (ad 0), .int (nI p), .int x, .int lo, .int hi, .int r] M (fun M1 => M1 = lk_mk M p x lo hi r) := by
  refine lk_openv (by decide +kernel) (Nat.le_of_ble_eq_true rfl) ?_
  intro pg en s m args below meth cd ls A X h hA hl
  obtain ⟨hx, hb, -⟩ := id X
  have hl : lv_has ls 6 [(0, .ref (ad 0)), (1, .int (nI p)), (2, .int x), (3, .int lo), (4, .int hi), (5, .int r)] := hl
  refine lv_aload_n hx hb d_MO_make_0 rfl (lv_at hl 0 rfl) ?_
  refine mo_get X rfl h 1 (by decide) rfl gf_MO_7 rfl d_MO_make_1 ?_
  refine lv_iload_n hx hb d_MO_make_4 rfl (lv_at hl 1 rfl) ?_
  refine lv_iconst (v := 1) hx hb d_MO_make_5 (by decide) ?_
  refine mo_ast X h 0 24 rfl (by decide) (j := p) (v := 1) (by omega) (by decide) d_MO_make_6 (fun H locs h => ?_)
  refine lv_aload_n hx hb d_MO_make_7 rfl (lv_at hl 0 rfl) ?_
  refine mo_get X rfl h 2 (by decide) rfl gf_MO_13 rfl d_MO_make_8 ?_
  refine lv_iload_n hx hb d_MO_make_11 rfl (lv_at hl 1 rfl) ?_
  refine lv_iload_n hx hb d_MO_make_12 rfl (lv_at hl 2 rfl) ?_
  refine mo_ast X h 1 24 rfl (by decide) (j := p) (v := x) (by omega) (by decide) d_MO_make_13 (fun H locs h => ?_)
  refine lv_aload_n hx hb d_MO_make_14 rfl (lv_at hl 0 rfl) ?_
  refine mo_get X rfl h 3 (by decide) rfl gf_MO_16 rfl d_MO_make_15 ?_
  refine lv_iload_n hx hb d_MO_make_18 rfl (lv_at hl 1 rfl) ?_
  refine lv_iload_n hx hb d_MO_make_19 rfl (lv_at hl 3 rfl) ?_
  refine mo_ast X h 2 24 rfl (by decide) (j := p) (v := lo) (by omega) (by decide) d_MO_make_20 (fun H locs h => ?_)
  refine lv_aload_n hx hb d_MO_make_21 rfl (lv_at hl 0 rfl) ?_
  refine mo_get X rfl h 4 (by decide) rfl gf_MO_19 rfl d_MO_make_22 ?_
  refine lv_iload_n hx hb d_MO_make_25 rfl (lv_at hl 1 rfl) ?_
  refine lv_iload hx hb d_MO_make_26 (lv_at hl 4 rfl) ?_
  refine mo_ast X h 3 24 rfl (by decide) (j := p) (v := hi) (by omega) (by decide) d_MO_make_28 (fun H locs h => ?_)
  refine lv_aload_n hx hb d_MO_make_29 rfl (lv_at hl 0 rfl) ?_
  refine mo_get X rfl h 5 (by decide) rfl gf_MO_22 rfl d_MO_make_30 ?_
  refine lv_iload_n hx hb d_MO_make_33 rfl (lv_at hl 1 rfl) ?_
  refine lv_iload hx hb d_MO_make_34 (lv_at hl 5 rfl) ?_
  refine mo_ast X h 4 24 rfl (by decide) (j := p) (v := r) (by omega) (by decide) d_MO_make_36 (fun H locs h => ?_)
  refine lv_aload_n hx hb d_MO_make_37 rfl (lv_at hl 0 rfl) ?_
  refine mo_get X rfl h 6 (by decide) rfl gf_MO_25 rfl d_MO_make_38 ?_
  refine lv_iload_n hx hb d_MO_make_41 rfl (lv_at hl 1 rfl) ?_
  refine lv_iconst (v := 0) hx hb d_MO_make_42 (by decide) ?_
  refine mo_ast X h 5 24 rfl (by decide) (j := p) (v := 0) (by omega) (by decide) d_MO_make_43 (fun H locs h => ?_)
  refine lv_aload_n hx hb d_MO_make_44 rfl (lv_at hl 0 rfl) ?_
  refine mo_get X rfl h 7 (by decide) rfl gf_MO_28 rfl d_MO_make_45 ?_
  refine lv_iload_n hx hb d_MO_make_48 rfl (lv_at hl 1 rfl) ?_
  refine lv_iconst (v := (-1)) hx hb d_MO_make_49 (by decide) ?_
  refine mo_ast X h 6 24 rfl (by decide) (j := p) (v := (-1)) (by omega) (by decide) d_MO_make_50 (fun H locs h => ?_)
  exact lk_retv X h d_MO_make_51 (rfl)
set_option maxRecDepth 20000 in
theorem c_MO_append (l : Launch) (D : va_G) (τ : Nat → ClassId) (ad : Nat → Nat) (M : lk_M) (p n : Nat) (hp : p < 24) (hc : M 5 p = nI n) (hn : n ≤ 4) (a b : Int32) : lk_Cv l D τ 25 ad (lk_me τ ad) y_MO_append b_MO_append 4 0 0 [.ref (ad 0), .int (nI p), .int a, .int b] M (fun M1 => M1 = lk_ins M p n n a b) := by
  refine lk_openv (by decide +kernel) (Nat.le_of_ble_eq_true rfl) ?_
  intro pg en s m args below meth cd ls A X h hA hl
  obtain ⟨hx, hb, -⟩ := id X
  have hl : lv_has ls 4 [(0, .ref (ad 0)), (1, .int (nI p)), (2, .int a), (3, .int b)] := hl
  refine lv_aload_n hx hb d_MO_append_0 rfl (lv_at hl 0 rfl) ?_
  refine mo_get X rfl h 8 (by decide) rfl gf_MO_31 rfl d_MO_append_1 ?_
  refine lv_iconst (v := nI 5) hx hb d_MO_append_4 (by decide) ?_
  refine lv_iload_n hx hb d_MO_append_5 rfl (lv_at hl 1 rfl) ?_
  refine lk_imulN hx hb d_MO_append_6 ?_
  refine lv_aload_n hx hb d_MO_append_7 rfl (lv_at hl 0 rfl) ?_
  refine mo_get X rfl h 6 (by decide) rfl gf_MO_25 rfl d_MO_append_8 ?_
  refine lv_iload_n hx hb d_MO_append_11 rfl (lv_at hl 1 rfl) ?_
  refine mo_ald X h 5 24 rfl (by decide) (j := p) (by omega) (by decide) d_MO_append_12 ?_
  refine lk_top (nI n) (hc) ?_
  refine lk_iaddN hx hb d_MO_append_13 ?_
  refine lv_iload_n hx hb d_MO_append_14 rfl (lv_at hl 2 rfl) ?_
  refine mo_ast X h 7 120 rfl (by decide) (j := 5 * p + n) (v := a) (by omega) (by decide) d_MO_append_15 (fun H locs h => ?_)
  refine lv_aload_n hx hb d_MO_append_16 rfl (lv_at hl 0 rfl) ?_
  refine mo_get X rfl h 9 (by decide) rfl gf_MO_34 rfl d_MO_append_17 ?_
  refine lv_iconst (v := nI 5) hx hb d_MO_append_20 (by decide) ?_
  refine lv_iload_n hx hb d_MO_append_21 rfl (lv_at hl 1 rfl) ?_
  refine lk_imulN hx hb d_MO_append_22 ?_
  refine lv_aload_n hx hb d_MO_append_23 rfl (lv_at hl 0 rfl) ?_
  refine mo_get X rfl h 6 (by decide) rfl gf_MO_25 rfl d_MO_append_24 ?_
  refine lv_iload_n hx hb d_MO_append_27 rfl (lv_at hl 1 rfl) ?_
  refine mo_ald X h 5 24 rfl (by decide) (j := p) (by omega) (by decide) d_MO_append_28 ?_
  refine lk_top (nI n) ((lk_st_f (by decide)).trans (hc)) ?_
  refine lk_iaddN hx hb d_MO_append_29 ?_
  refine lv_iload_n hx hb d_MO_append_30 rfl (lv_at hl 3 rfl) ?_
  refine mo_ast X h 8 120 rfl (by decide) (j := 5 * p + n) (v := b) (by omega) (by decide) d_MO_append_31 (fun H locs h => ?_)
  refine lv_aload_n hx hb d_MO_append_32 rfl (lv_at hl 0 rfl) ?_
  refine mo_get X rfl h 6 (by decide) rfl gf_MO_25 rfl d_MO_append_33 ?_
  refine lv_iload_n hx hb d_MO_append_36 rfl (lv_at hl 1 rfl) ?_
  refine lv_dup2_11 hx hb d_MO_append_37 rfl rfl ?_
  refine mo_ald X h 5 24 rfl (by decide) (j := p) (by omega) (by decide) d_MO_append_38 ?_
  refine lk_top (nI n) ((lk_st_f (by decide)).trans ((lk_st_f (by decide)).trans (hc))) ?_
  refine lv_iconst (v := nI 1) hx hb d_MO_append_39 (by decide) ?_
  refine lk_iaddN hx hb d_MO_append_40 ?_
  refine mo_ast X h 5 24 rfl (by decide) (j := p) (v := nI (n + 1)) (by omega) (by decide) d_MO_append_41 (fun H locs h => ?_)
  exact lk_retv X h d_MO_append_42 (lk_app_eq M p n a b)
set_option maxRecDepth 20000 in
theorem c_MO_search (l : Launch) (D : va_G) (τ : Nat → ClassId) (ad : Nat → Nat) (M : lk_M) (t : Nat) (ht : t < 4) (x : Int32) : lk_Cv l D τ 25 ad (lk_me τ ad) y_MO_search b_MO_search 3 0 0 [.ref (ad 0), .int (nI t), .int x] M (fun M1 => M1 = lk_srch M t x) := by
  refine lk_openv (by decide +kernel) (Nat.le_of_ble_eq_true rfl) ?_
  intro pg en s m args below meth cd ls A X h hA hl
  obtain ⟨hx, hb, -⟩ := id X
  have hl : lv_has ls 3 [(0, .ref (ad 0)), (1, .int (nI t)), (2, .int x)] := hl
  refine lv_aload_n hx hb d_MO_search_0 rfl (lv_at hl 0 rfl) ?_
  refine mo_get X rfl h 16 (by decide) rfl gf_MO_50 rfl d_MO_search_1 ?_
  refine lv_iload_n hx hb d_MO_search_4 rfl (lv_at hl 1 rfl) ?_
  refine lv_iconst (v := 0) hx hb d_MO_search_5 (by decide) ?_
  refine mo_ast X h 13 4 rfl (by decide) (j := t) (v := 0) (by omega) (by decide) d_MO_search_6 (fun H locs h => ?_)
  refine lv_aload_n hx hb d_MO_search_7 rfl (lv_at hl 0 rfl) ?_
  refine mo_get X rfl h 17 (by decide) rfl gf_MO_53 rfl d_MO_search_8 ?_
  refine lv_iload_n hx hb d_MO_search_11 rfl (lv_at hl 1 rfl) ?_
  refine lv_iload_n hx hb d_MO_search_12 rfl (lv_at hl 2 rfl) ?_
  refine mo_ast X h 14 4 rfl (by decide) (j := t) (v := x) (by omega) (by decide) d_MO_search_13 (fun H locs h => ?_)
  exact lk_retv X h d_MO_search_14 (rfl)
def mm_rel (σ : lk_M) (p : Nat) : lk_M := if σ 0 p = 2 ∧ σ 9 p = 0 then lk_st σ 0 p 0 else σ
set_option maxRecDepth 20000 in
theorem c_MO_release (l : Launch) (D : va_G) (τ : Nat → ClassId) (ad : Nat → Nat) (M : lk_M) (p : Nat) (hp : p < 24) : lk_Cv l D τ 25 ad (lk_me τ ad) y_MO_release b_MO_release 2 0 0 [.ref (ad 0), .int (nI p)] M (fun M1 => M1 = mm_rel M p) := by
  refine lk_openv (by decide +kernel) (Nat.le_of_ble_eq_true rfl) ?_
  intro pg en s m args below meth cd ls A X h hA hl
  obtain ⟨hx, hb, -⟩ := id X
  have hl : lv_has ls 2 [(0, .ref (ad 0)), (1, .int (nI p))] := hl
  refine lv_aload_n hx hb d_MO_release_0 rfl (lv_at hl 0 rfl) ?_
  refine mo_get X rfl h 1 (by decide) rfl gf_MO_7 rfl d_MO_release_1 ?_
  refine lv_iload_n hx hb d_MO_release_4 rfl (lv_at hl 1 rfl) ?_
  refine mo_ald X h 0 24 rfl (by decide) (j := p) (by omega) (by decide) d_MO_release_5 ?_
  refine lv_iconst (v := 2) hx hb d_MO_release_6 (by decide) ?_
  refine lv_icmp_ne (tgt := 26) hx hb d_MO_release_7 (by decide) (fun h1 => ?_) (fun h1 => ?_)
  · exact lk_retv X h d_MO_release_26 ((if_neg (fun z => h1 z.1)).symm)
  · refine lv_aload_n hx hb d_MO_release_10 rfl (lv_at hl 0 rfl) ?_
    refine mo_get X rfl h 10 (by decide) rfl gf_MO_37 rfl d_MO_release_11 ?_
    refine lv_iload_n hx hb d_MO_release_14 rfl (lv_at hl 1 rfl) ?_
    refine mo_ald X h 9 24 rfl (by decide) (j := p) (by omega) (by decide) d_MO_release_15 ?_
    refine lv_if_ne (tgt := 26) hx hb d_MO_release_16 (by decide) (fun h2 => ?_) (fun h2 => ?_)
    · exact lk_retv X h d_MO_release_26 ((if_neg (fun z => h2 z.2)).symm)
    · refine lv_aload_n hx hb d_MO_release_19 rfl (lv_at hl 0 rfl) ?_
      refine mo_get X rfl h 1 (by decide) rfl gf_MO_7 rfl d_MO_release_20 ?_
      refine lv_iload_n hx hb d_MO_release_23 rfl (lv_at hl 1 rfl) ?_
      refine lv_iconst (v := 0) hx hb d_MO_release_24 (by decide) ?_
      refine mo_ast X h 0 24 rfl (by decide) (j := p) (v := 0) (by omega) (by decide) d_MO_release_25 (fun H locs h => ?_)
      exact lk_retv X h d_MO_release_26 ((if_pos ⟨h1, h2⟩).symm)
def lk_lost (σ : lk_M) (t p : Nat) : Prop := σ 0 p ≠ 1 ∨ σ 15 t ≤ σ 2 p
set_option maxRecDepth 20000 in
theorem c_MO_isLost (l : Launch) (D : va_G) (τ : Nat → ClassId) (ad : Nat → Nat) (M : lk_M) (t p : Nat) (ht : t < 4) (hp : p < 24) (hpl : M 14 t = nI p) : lk_Ci l D τ 25 ad (lk_me τ ad) y_MO_isLost b_MO_isLost 3 (.boolean) 0 0 [.ref (ad 0), .int (nI t)] M (fun r M1 => (r = 1 ∧ lk_lost M t p ∨ r = 0 ∧ ¬ lk_lost M t p) ∧ M1 = M) := by
  refine lk_openi (by decide +kernel) (Nat.le_of_ble_eq_true rfl) ?_
  intro pg en s m args below meth cd ls A X h hA hl
  obtain ⟨hx, hb, -⟩ := id X
  have hl : lv_has ls 3 [(0, .ref (ad 0)), (1, .int (nI t))] := hl
  refine lv_aload_n hx hb d_MO_isLost_0 rfl (lv_at hl 0 rfl) ?_
  refine mo_get X rfl h 17 (by decide) rfl gf_MO_53 rfl d_MO_isLost_1 ?_
  refine lv_iload_n hx hb d_MO_isLost_4 rfl (lv_at hl 1 rfl) ?_
  refine mo_ald X h 14 4 rfl (by decide) (j := t) (by omega) (by decide) d_MO_isLost_5 ?_
  refine lk_top (nI p) (hpl) ?_
  refine lv_istore_n hx hb d_MO_isLost_6 rfl hl (by decide) rfl (fun ls hl => ?_)
  have hl : lv_has ls 3 [(2, .int (nI p)), (0, .ref (ad 0)), (1, .int (nI t))] := hl
  refine lv_aload_n hx hb d_MO_isLost_7 rfl (lv_at hl 1 rfl) ?_
  refine mo_get X rfl h 1 (by decide) rfl gf_MO_7 rfl d_MO_isLost_8 ?_
  refine lv_iload_n hx hb d_MO_isLost_11 rfl (lv_at hl 0 rfl) ?_
  refine mo_ald X h 0 24 rfl (by decide) (j := p) (by omega) (by decide) d_MO_isLost_12 ?_
  refine lv_iconst (v := 1) hx hb d_MO_isLost_13 (by decide) ?_
  refine lv_icmp_ne (tgt := 32) hx hb d_MO_isLost_14 (by decide) (fun h1 => ?_) (fun h1 => ?_)
  · refine lv_iconst (v := 1) hx hb d_MO_isLost_32 (by decide) ?_
    refine lv_goto (tgt := 37) hx hb d_MO_isLost_33 (by decide) ?_
    exact lk_retz X h d_MO_isLost_37 (by decide) (⟨Or.inl ⟨rfl, Or.inl h1⟩, rfl⟩)
  · refine lv_aload_n hx hb d_MO_isLost_17 rfl (lv_at hl 1 rfl) ?_
    refine mo_get X rfl h 3 (by decide) rfl gf_MO_16 rfl d_MO_isLost_18 ?_
    refine lv_iload_n hx hb d_MO_isLost_21 rfl (lv_at hl 0 rfl) ?_
    refine mo_ald X h 2 24 rfl (by decide) (j := p) (by omega) (by decide) d_MO_isLost_22 ?_
    refine lv_aload_n hx hb d_MO_isLost_23 rfl (lv_at hl 1 rfl) ?_
    refine mo_get X rfl h 18 (by decide) rfl gf_MO_56 rfl d_MO_isLost_24 ?_
    refine lv_iload_n hx hb d_MO_isLost_27 rfl (lv_at hl 2 rfl) ?_
    refine mo_ald X h 15 4 rfl (by decide) (j := t) (by omega) (by decide) d_MO_isLost_28 ?_
    refine lv_icmp_lt (tgt := 36) hx hb d_MO_isLost_29 (by decide) (fun h2 => ?_) (fun h2 => ?_)
    · refine lv_iconst (v := 0) hx hb d_MO_isLost_36 (by decide) ?_
      exact lk_retz X h d_MO_isLost_37 (by decide) (⟨Or.inr ⟨rfl, fun z => z.elim (fun q => q h1) (fun q => absurd h2 (Int32.not_lt.mpr q))⟩, rfl⟩)
    · refine lv_iconst (v := 1) hx hb d_MO_isLost_32 (by decide) ?_
      refine lv_goto (tgt := 37) hx hb d_MO_isLost_33 (by decide) ?_
      exact lk_retz X h d_MO_isLost_37 (by decide) (⟨Or.inl ⟨rfl, Or.inr (Int32.not_lt.mp h2)⟩, rfl⟩)
section
variable {pg : Program} {l : Launch} {en : Env} {R : Room} {s : State} {m : MethodId} {args : Array Value} {below : List Frame} {meth : Method} {cd : Code} {H : Heap} {locs : List Loc} {cells slots : Nat} {Q : State → Prop} {D : va_G} {τ : Nat → ClassId} {ad : Nat → Nat} {A : Nat → Prop} {H0 : Heap} {M : lk_M}
theorem w_MO_from (X : lk_X pg s m args meth cd y_MO_from b_MO_from 4 (some (.int)) D τ) (h : lk_H D lk_cl A H0 (lk_w 25 ad (lk_me τ ad M)) H locs) {q n : Nat} {k : Int32} (hq : q < 24) (hc : M 5 q = nI n) (hn : n ≤ 5) : ∀ (r i : Nat), i + r = n → ∀ ls : Array Slot, lv_has ls 4 [(3, .int (nI i)), (0, .ref (ad 0)), (1, .int (nI q)), (2, .int k)] → (∀ ls : Array Slot, lv_has ls 4 [(3, .int (nI (i + lk_fr (M 7) k r (5 * q + i)))), (0, .ref (ad 0)), (1, .int (nI q)), (2, .int k)] → W pg l en R s m args below meth cd H locs cells slots Q (F0 m 32 ls [])) → W pg l en R s m args below meth cd H locs cells slots Q (F0 m 2 ls []) := by
  obtain ⟨hx, hb, -⟩ := id X
  intro r
  induction r with
  | zero =>
    intro i hi ls hl kk
    have hi : i = n := by omega
    subst hi
    refine lv_iload_n hx hb d_MO_from_2 rfl (lv_at hl 0 rfl) ?_
    refine lv_aload_n hx hb d_MO_from_3 rfl (lv_at hl 1 rfl) ?_
    refine mo_get X rfl h 6 (by decide) rfl gf_MO_25 rfl d_MO_from_4 ?_
    refine lv_iload_n hx hb d_MO_from_7 rfl (lv_at hl 2 rfl) ?_
    refine mo_ald X h 5 24 rfl (by decide) (j := q) (by omega) (by decide) d_MO_from_8 ?_
    refine lk_top (nI i) (hc) ?_
    refine lk_cN_ge (tgt := 32) hx hb (by omega) (by omega) d_MO_from_9 (by decide) (fun h1 => ?_) (fun h1 => ?_)
    · exact kk ls hl
    · omega
  | succ r ih =>
    intro i hi ls hl kk
    have e0 : lk_fr (M 7) k (r + 1) (5 * q + i) = if M 7 (5 * q + i) < k then lk_fr (M 7) k r (5 * q + i + 1) + 1 else 0 := rfl
    refine lv_iload_n hx hb d_MO_from_2 rfl (lv_at hl 0 rfl) ?_
    refine lv_aload_n hx hb d_MO_from_3 rfl (lv_at hl 1 rfl) ?_
    refine mo_get X rfl h 6 (by decide) rfl gf_MO_25 rfl d_MO_from_4 ?_
    refine lv_iload_n hx hb d_MO_from_7 rfl (lv_at hl 2 rfl) ?_
    refine mo_ald X h 5 24 rfl (by decide) (j := q) (by omega) (by decide) d_MO_from_8 ?_
    refine lk_top (nI n) (hc) ?_
    refine lk_cN_ge (tgt := 32) hx hb (by omega) (by omega) d_MO_from_9 (by decide) (fun h1 => ?_) (fun h1 => ?_)
    · omega
    · refine lv_aload_n hx hb d_MO_from_12 rfl (lv_at hl 1 rfl) ?_
      refine mo_get X rfl h 8 (by decide) rfl gf_MO_31 rfl d_MO_from_13 ?_
      refine lv_iconst (v := nI 5) hx hb d_MO_from_16 (by decide) ?_
      refine lv_iload_n hx hb d_MO_from_17 rfl (lv_at hl 2 rfl) ?_
      refine lk_imulN hx hb d_MO_from_18 ?_
      refine lv_iload_n hx hb d_MO_from_19 rfl (lv_at hl 0 rfl) ?_
      refine lk_iaddN hx hb d_MO_from_20 ?_
      refine mo_ald X h 7 120 rfl (by decide) (j := 5 * q + i) (by omega) (by decide) d_MO_from_21 ?_
      refine lv_iload_n hx hb d_MO_from_22 rfl (lv_at hl 3 rfl) ?_
      refine lv_icmp_ge (tgt := 32) hx hb d_MO_from_23 (by decide) (fun h2 => ?_) (fun h2 => ?_)
      · have e1 : i + lk_fr (M 7) k (r + 1) (5 * q + i) = i := by rw [e0, if_neg (Int32.not_lt.mpr h2)]; rfl
        rw [e1] at kk
        exact kk ls hl
      · refine lv_iinc (k := 0) (v := nI (i + 1)) hx hb d_MO_from_26 hl rfl (nI_1 _) (by decide) rfl (fun ls hl => ?_)
        have hl : lv_has ls 4 [(3, .int (nI (i + 1))), (0, .ref (ad 0)), (1, .int (nI q)), (2, .int k)] := hl
        refine lv_goto (tgt := 2) hx hb d_MO_from_29 (by decide) ?_
        refine ih (i + 1) (by omega) ls hl (fun ls hl => kk ls ?_)
        have e1 : i + lk_fr (M 7) k (r + 1) (5 * q + i) = i + 1 + lk_fr (M 7) k r (5 * q + (i + 1)) := by rw [e0, if_pos (Int32.not_le.mp h2), show 5 * q + (i + 1) = 5 * q + i + 1 by omega]; omega
        rw [e1]
        exact hl
end
def lk_at (σ : lk_M) (p n : Nat) (k : Int32) : Nat := lk_fr (σ 7) k n (5 * p)
theorem lk_at_le (σ : lk_M) (p n : Nat) (k : Int32) : lk_at σ p n k ≤ n := lk_fr_le _ _ _ _
set_option maxRecDepth 20000 in
theorem c_MO_from (l : Launch) (D : va_G) (τ : Nat → ClassId) (ad : Nat → Nat) (M : lk_M) (q n : Nat) (hq : q < 24) (hc : M 5 q = nI n) (hn : n ≤ 5) (k : Int32) : lk_Ci l D τ 25 ad (lk_me τ ad) y_MO_from b_MO_from 4 (.int) 0 0 [.ref (ad 0), .int (nI q), .int k] M (fun r M1 => r = nI (lk_at M q n k) ∧ M1 = M) := by
  refine lk_openi (by decide +kernel) (Nat.le_of_ble_eq_true rfl) ?_
  intro pg en s m args below meth cd ls A X h hA hl
  obtain ⟨hx, hb, -⟩ := id X
  have hl : lv_has ls 4 [(0, .ref (ad 0)), (1, .int (nI q)), (2, .int k)] := hl
  refine lv_iconst (v := nI 0) hx hb d_MO_from_0 (by decide) ?_
  refine lv_istore_n hx hb d_MO_from_1 rfl hl (by decide) rfl (fun ls hl => ?_)
  have hl : lv_has ls 4 [(3, .int (nI 0)), (0, .ref (ad 0)), (1, .int (nI q)), (2, .int k)] := hl
  refine w_MO_from X h hq hc hn n 0 (by omega) ls hl (fun ls hl => ?_)
  refine lv_iload_n hx hb d_MO_from_32 rfl (lv_at hl 0 rfl) ?_
  rw [Nat.zero_add, Nat.add_zero]
  exact lk_reti X h d_MO_from_33 (⟨rfl, rfl⟩)
def lk_hk (σ : lk_M) (p n : Nat) (k : Int32) : Prop := lk_at σ p n k < n ∧ σ 7 (5 * p + lk_at σ p n k) = k
set_option maxRecDepth 20000 in
theorem c_MO_has (l : Launch) (D : va_G) (τ : Nat → ClassId) (ad : Nat → Nat) (M : lk_M) (q n : Nat) (hq : q < 24) (hc : M 5 q = nI n) (hn : n ≤ 5) (k : Int32) : lk_Ci l D τ 25 ad (lk_me τ ad) y_MO_has b_MO_has 4 (.boolean) 1 23 [.ref (ad 0), .int (nI q), .int k] M (fun r M1 => (r = 1 ∧ lk_hk M q n k ∨ r = 0 ∧ ¬ lk_hk M q n k) ∧ M1 = M) := by
  refine lk_openi (by decide +kernel) (Nat.le_of_ble_eq_true rfl) ?_
  intro pg en s m args below meth cd ls A X h hA hl
  obtain ⟨hx, hb, -⟩ := id X
  have hl : lv_has ls 4 [(0, .ref (ad 0)), (1, .int (nI q)), (2, .int k)] := hl
  have hle := lk_at_le M q n k
  refine lv_aload_n hx hb d_MO_has_0 rfl (lv_at hl 0 rfl) ?_
  refine lv_iload_n hx hb d_MO_has_1 rfl (lv_at hl 1 rfl) ?_
  refine lv_iload_n hx hb d_MO_has_2 rfl (lv_at hl 2 rfl) ?_
  refine lk_goi (lk_runV (As := [.int (nI q), .int k]) (C := R_MO) X h (c_MO_from l D τ ad M q n hq hc hn k) ⟨gc_MO_from, gm_MO_87, gn_MO, gd_MO_from, by decide, by decide⟩ gi_MO_from gs_MO_from ⟨0, 4, _, _, _, lk_w_get (by decide), rfl⟩ rfl hl.1 (Nat.le_of_ble_eq_true rfl) d_MO_has_3 ⟨Nat.zero_le _, Nat.zero_le _⟩) h hA (fun r3 σ3 H locs hk9 h => ?_)
  rw [hk9.2] at h
  rw [hk9.1]
  refine lv_istore_n hx hb d_MO_has_6 rfl hl (by decide) rfl (fun ls hl => ?_)
  have hl : lv_has ls 4 [(3, .int (nI (lk_at M q n k))), (0, .ref (ad 0)), (1, .int (nI q)), (2, .int k)] := hl
  refine lv_iload_n hx hb d_MO_has_7 rfl (lv_at hl 0 rfl) ?_
  refine lv_aload_n hx hb d_MO_has_8 rfl (lv_at hl 1 rfl) ?_
  refine mo_get X rfl h 6 (by decide) rfl gf_MO_25 rfl d_MO_has_9 ?_
  refine lv_iload_n hx hb d_MO_has_12 rfl (lv_at hl 2 rfl) ?_
  refine mo_ald X h 5 24 rfl (by decide) (j := q) (by omega) (by decide) d_MO_has_13 ?_
  refine lk_top (nI n) (hc) ?_
  refine lk_cN_ge (tgt := 35) hx hb (by omega) (by omega) d_MO_has_14 (by decide) (fun h1 => ?_) (fun h1 => ?_)
  · refine lv_iconst (v := 0) hx hb d_MO_has_35 (by decide) ?_
    exact lk_retz X h d_MO_has_36 (by decide) (⟨Or.inr ⟨rfl, fun z => absurd z.1 (by omega)⟩, rfl⟩)
  · refine lv_aload_n hx hb d_MO_has_17 rfl (lv_at hl 1 rfl) ?_
    refine mo_get X rfl h 8 (by decide) rfl gf_MO_31 rfl d_MO_has_18 ?_
    refine lv_iconst (v := nI 5) hx hb d_MO_has_21 (by decide) ?_
    refine lv_iload_n hx hb d_MO_has_22 rfl (lv_at hl 2 rfl) ?_
    refine lk_imulN hx hb d_MO_has_23 ?_
    refine lv_iload_n hx hb d_MO_has_24 rfl (lv_at hl 0 rfl) ?_
    refine lk_iaddN hx hb d_MO_has_25 ?_
    refine mo_ald X h 7 120 rfl (by decide) (j := 5 * q + lk_at M q n k) (by omega) (by decide) d_MO_has_26 ?_
    refine lv_iload_n hx hb d_MO_has_27 rfl (lv_at hl 3 rfl) ?_
    refine lv_icmp_ne (tgt := 35) hx hb d_MO_has_28 (by decide) (fun h2 => ?_) (fun h2 => ?_)
    · refine lv_iconst (v := 0) hx hb d_MO_has_35 (by decide) ?_
      exact lk_retz X h d_MO_has_36 (by decide) (⟨Or.inr ⟨rfl, fun z => h2 z.2⟩, rfl⟩)
    · refine lv_iconst (v := 1) hx hb d_MO_has_31 (by decide) ?_
      refine lv_goto (tgt := 36) hx hb d_MO_has_32 (by decide) ?_
      exact lk_retz X h d_MO_has_36 (by decide) (⟨Or.inl ⟨rfl, h1, h2⟩, rfl⟩)
end
section
theorem lk_st_st (σ : lk_M) (a i : Nat) (v w : Int32) : lk_st (lk_st σ a i v) a i w = lk_st σ a i w := by
  funext b j
  simp only [lk_st_eq]
  by_cases h : b = a ∧ j = i
  · simp [h]
  · simp [h]
section
variable {pg : Program} {l : Launch} {en : Env} {R : Room} {s : State} {m : MethodId} {args : Array Value} {below : List Frame} {meth : Method} {cd : Code} {H : Heap} {locs : List Loc} {cells slots : Nat} {Q : State → Prop} {D : va_G} {τ : Nat → ClassId} {ad : Nat → Nat} {A : Nat → Prop} {H0 : Heap} {M : lk_M}
theorem w_MO_freePage (X : lk_X pg s m args meth cd y_MO_freePage b_MO_freePage 2 (some (.int)) D τ) (h : lk_H D lk_cl A s.heap (lk_w 25 ad (lk_me τ ad M)) H locs) {post : Int32 → lk_M → Prop} : ∀ (r k : Nat), k + r = 24 → post (lk_nn (lk_ff (M 0) 0 r k) 24) M → ∀ ls : Array Slot, lv_has ls 2 [(1, .int (nI k)), (0, .ref (ad 0))] → W pg l en R s m args below meth cd H locs 0 0 (MQ below (va_Qi post (lk_Bh D τ 25 ad (lk_me τ ad)) A) args s 0 0 A) (F0 m 2 ls []) := by
  obtain ⟨hx, hb, -⟩ := id X
  intro r
  induction r with
  | zero =>
    intro k hk hp ls hl
    refine lv_iload_n hx hb d_MO_freePage_2 rfl (lv_at hl 0 rfl) ?_
    refine lv_bipush (v := nI 24) hx hb d_MO_freePage_3 (by decide) ?_
    refine lk_cN_ge (tgt := 25) hx hb (by omega) (by omega) d_MO_freePage_5 (by decide) (fun h1 => ?_) (fun h1 => ?_)
    · refine lv_iconst (v := (-1)) hx hb d_MO_freePage_25 (by decide) ?_
      have e1 : lk_nn (lk_ff (M 0) 0 0 k) 24 = -1 := if_neg (by show ¬ k < 24; omega)
      rw [e1] at hp
      exact lk_reti X h d_MO_freePage_26 (hp)
    · omega
  | succ r ih =>
    intro k hk hp ls hl
    have e0 : lk_ff (M 0) 0 (r + 1) k = if M 0 k = 0 then k else lk_ff (M 0) 0 r (k + 1) := rfl
    refine lv_iload_n hx hb d_MO_freePage_2 rfl (lv_at hl 0 rfl) ?_
    refine lv_bipush (v := nI 24) hx hb d_MO_freePage_3 (by decide) ?_
    refine lk_cN_ge (tgt := 25) hx hb (by omega) (by omega) d_MO_freePage_5 (by decide) (fun h1 => ?_) (fun h1 => ?_)
    · omega
    · refine lv_aload_n hx hb d_MO_freePage_8 rfl (lv_at hl 1 rfl) ?_
      refine mo_get X rfl h 1 (by decide) rfl gf_MO_7 rfl d_MO_freePage_9 ?_
      refine lv_iload_n hx hb d_MO_freePage_12 rfl (lv_at hl 0 rfl) ?_
      refine mo_ald X h 0 24 rfl (by decide) (j := k) (by omega) (by decide) d_MO_freePage_13 ?_
      refine lv_if_ne (tgt := 19) hx hb d_MO_freePage_14 (by decide) (fun h2 => ?_) (fun h2 => ?_)
      · refine lv_iinc (k := 0) (v := nI (k + 1)) hx hb d_MO_freePage_19 hl rfl (nI_1 _) (by decide) rfl (fun ls hl => ?_)
        have hl : lv_has ls 2 [(1, .int (nI (k + 1))), (0, .ref (ad 0))] := hl
        refine lv_goto (tgt := 2) hx hb d_MO_freePage_22 (by decide) ?_
        refine ih (k + 1) (by omega) ?_ ls hl
        rw [e0, if_neg h2] at hp
        exact hp
      · refine lv_iload_n hx hb d_MO_freePage_17 rfl (lv_at hl 0 rfl) ?_
        rw [e0, if_pos h2] at hp
        have e1 : lk_nn k 24 = nI k := if_pos (by omega)
        rw [e1] at hp
        exact lk_reti X h d_MO_freePage_18 (hp)
end
set_option maxRecDepth 20000 in
theorem c_MO_freePage (l : Launch) (D : va_G) (τ : Nat → ClassId) (ad : Nat → Nat) (M : lk_M) : lk_Ci l D τ 25 ad (lk_me τ ad) y_MO_freePage b_MO_freePage 2 (.int) 0 0 [.ref (ad 0)] M (fun r M1 => r = lk_nn (lk_free M) 24 ∧ M1 = M) := by
  refine lk_openi (by decide +kernel) (Nat.le_of_ble_eq_true rfl) ?_
  intro pg en s m args below meth cd ls A X h hA hl
  obtain ⟨hx, hb, -⟩ := id X
  have hl : lv_has ls 2 [(0, .ref (ad 0))] := hl
  refine lv_iconst (v := nI 0) hx hb d_MO_freePage_0 (by decide) ?_
  refine lv_istore_n hx hb d_MO_freePage_1 rfl hl (by decide) rfl (fun ls hl => ?_)
  have hl : lv_has ls 2 [(1, .int (nI 0)), (0, .ref (ad 0))] := hl
  exact w_MO_freePage X h 24 0 (by omega) ⟨rfl, rfl⟩ ls hl
def lk_nopL (σ : lk_M) (t k : Nat) : lk_M := va_up σ 19 (fun i => if 32 * t ≤ i ∧ i < 32 * t + k then -1 else σ 19 i)
theorem lk_nopL_0 (σ : lk_M) (t : Nat) : lk_nopL σ t 0 = σ := by
  funext f i
  unfold lk_nopL
  rw [lk_up_eq]
  by_cases h : f = 19
  · subst h; simp; omega
  · simp [h]
theorem lk_nopL_s (σ : lk_M) (t k : Nat) : lk_st (lk_nopL σ t k) 19 (32 * t + k) (-1) = lk_nopL σ t (k + 1) := by
  funext f i
  unfold lk_nopL
  simp only [lk_st_eq, lk_up_eq]
  by_cases h : f = 19
  · subst h
    by_cases h2 : i = 32 * t + k
    · subst h2; simp
    · simp only [h2, and_false, if_false, if_true]
      by_cases h3 : 32 * t ≤ i ∧ i < 32 * t + k
      · rw [if_pos h3, if_pos (by omega)]
      · rw [if_neg h3, if_neg (by omega)]
  · simp [h]
section
variable {pg : Program} {l : Launch} {en : Env} {R : Room} {s : State} {m : MethodId} {args : Array Value} {below : List Frame} {meth : Method} {cd : Code} {H : Heap} {locs : List Loc} {cells slots : Nat} {Q : State → Prop} {D : va_G} {τ : Nat → ClassId} {ad : Nat → Nat} {A : Nat → Prop} {H0 : Heap} {M : lk_M}
theorem w_MO_forgetPath (X : lk_X pg s m args meth cd y_MO_forgetPath b_MO_forgetPath 3 (none) D τ) {t : Nat} (ht : t < 4) : ∀ (r k : Nat), k + r = 32 → ∀ (H : Heap) (locs : List Loc) (ls : Array Slot), lk_H D lk_cl A H0 (lk_w 25 ad (lk_me τ ad (lk_nopL M t k))) H locs → lv_has ls 3 [(2, .int (nI (32 * t + k))), (0, .ref (ad 0)), (1, .int (nI t))] → (∀ (H : Heap) (locs : List Loc) (ls : Array Slot), lk_H D lk_cl A H0 (lk_w 25 ad (lk_me τ ad (lk_nop M t))) H locs → W pg l en R s m args below meth cd H locs cells slots Q (F0 m 29 ls [])) → W pg l en R s m args below meth cd H locs cells slots Q (F0 m 5 ls []) := by
  obtain ⟨hx, hb, -⟩ := id X
  intro r
  induction r with
  | zero =>
    intro k hk H locs ls h hl kk
    have hk : k = 32 := by omega
    subst hk
    refine lv_iload_n hx hb d_MO_forgetPath_5 rfl (lv_at hl 0 rfl) ?_
    refine lv_bipush (v := nI 32) hx hb d_MO_forgetPath_6 (by decide) ?_
    refine lv_iload_n hx hb d_MO_forgetPath_8 rfl (lv_at hl 2 rfl) ?_
    refine lk_imulN hx hb d_MO_forgetPath_9 ?_
    refine lv_bipush (v := nI 32) hx hb d_MO_forgetPath_10 (by decide) ?_
    refine lk_iaddN hx hb d_MO_forgetPath_12 ?_
    refine lk_cN_ge (tgt := 29) hx hb (by omega) (by omega) d_MO_forgetPath_13 (by decide) (fun h1 => ?_) (fun h1 => ?_)
    · exact kk H locs ls h
    · omega
  | succ r ih =>
    intro k hk H locs ls h hl kk
    refine lv_iload_n hx hb d_MO_forgetPath_5 rfl (lv_at hl 0 rfl) ?_
    refine lv_bipush (v := nI 32) hx hb d_MO_forgetPath_6 (by decide) ?_
    refine lv_iload_n hx hb d_MO_forgetPath_8 rfl (lv_at hl 2 rfl) ?_
    refine lk_imulN hx hb d_MO_forgetPath_9 ?_
    refine lv_bipush (v := nI 32) hx hb d_MO_forgetPath_10 (by decide) ?_
    refine lk_iaddN hx hb d_MO_forgetPath_12 ?_
    refine lk_cN_ge (tgt := 29) hx hb (by omega) (by omega) d_MO_forgetPath_13 (by decide) (fun h1 => ?_) (fun h1 => ?_)
    · omega
    · refine lv_aload_n hx hb d_MO_forgetPath_16 rfl (lv_at hl 1 rfl) ?_
      refine mo_get X rfl h 22 (by decide) rfl gf_MO_68 rfl d_MO_forgetPath_17 ?_
      refine lv_iload_n hx hb d_MO_forgetPath_20 rfl (lv_at hl 0 rfl) ?_
      refine lv_iconst (v := (-1)) hx hb d_MO_forgetPath_21 (by decide) ?_
      refine mo_ast X h 19 128 rfl (by decide) (j := 32 * t + k) (v := (-1)) (by omega) (by decide) d_MO_forgetPath_22 (fun H locs h => ?_)
      refine lv_iinc (k := 0) (v := nI (32 * t + k + 1)) hx hb d_MO_forgetPath_23 hl rfl (nI_1 _) (by decide) rfl (fun ls hl => ?_)
      have hl : lv_has ls 3 [(2, .int (nI (32 * t + k + 1))), (0, .ref (ad 0)), (1, .int (nI t))] := hl
      refine lv_goto (tgt := 5) hx hb d_MO_forgetPath_26 (by decide) ?_
      rw [lk_nopL_s] at h
      exact ih (k + 1) (by omega) H locs ls h hl kk
end
set_option maxRecDepth 20000 in
theorem c_MO_forgetPath (l : Launch) (D : va_G) (τ : Nat → ClassId) (ad : Nat → Nat) (M : lk_M) (t : Nat) (ht : t < 4) : lk_Cv l D τ 25 ad (lk_me τ ad) y_MO_forgetPath b_MO_forgetPath 3 0 0 [.ref (ad 0), .int (nI t)] M (fun M1 => M1 = lk_nop M t) := by
  refine lk_openv (by decide +kernel) (Nat.le_of_ble_eq_true rfl) ?_
  intro pg en s m args below meth cd ls A X h hA hl
  obtain ⟨hx, hb, -⟩ := id X
  have hl : lv_has ls 3 [(0, .ref (ad 0)), (1, .int (nI t))] := hl
  refine lv_bipush (v := nI 32) hx hb d_MO_forgetPath_0 (by decide) ?_
  refine lv_iload_n hx hb d_MO_forgetPath_2 rfl (lv_at hl 1 rfl) ?_
  refine lk_imulN hx hb d_MO_forgetPath_3 ?_
  refine lv_istore_n hx hb d_MO_forgetPath_4 rfl hl (by decide) rfl (fun ls hl => ?_)
  have hl : lv_has ls 3 [(2, .int (nI (32 * t))), (0, .ref (ad 0)), (1, .int (nI t))] := hl
  refine w_MO_forgetPath X ht 32 0 (by omega) _ _ ls (by rw [lk_nopL_0]; exact h) hl (fun H locs ls h => ?_)
  exact lk_retv X h d_MO_forgetPath_29 (rfl)
def lk_pR (f : Nat → Int32) (lo hi : Nat) : Nat → Int32 := fun i => if lo < i ∧ i ≤ hi then f (i - 1) else f i
def lk_insL (M : lk_M) (p k n r : Nat) : lk_M := va_up (va_up M 7 (lk_pR (M 7) (5 * p + k + r) (5 * p + n))) 8 (lk_pR (M 8) (5 * p + k + r) (5 * p + n))
theorem lk_pR_id (f : Nat → Int32) {lo hi : Nat} (h : hi ≤ lo) : lk_pR f lo hi = f := by
  funext i
  unfold lk_pR
  rw [if_neg (by omega)]
theorem lk_up_id (M : lk_M) (a : Nat) : va_up M a (M a) = M := by
  funext f
  unfold va_up
  by_cases h : f = a
  · rw [if_pos h, h]
  · rw [if_neg h]
theorem lk_insL_n (M : lk_M) {p k n r : Nat} (h : k + r = n) : lk_insL M p k n r = M := by
  unfold lk_insL
  rw [lk_pR_id _ (by omega), lk_pR_id _ (by omega), lk_up_id, lk_up_id]
theorem lk_pR_s (f : Nat → Int32) (lo hi i : Nat) (h : lo + 1 ≤ hi) : (if i = lo + 1 then lk_pR f (lo + 1) hi (lo + 1 - 1) else lk_pR f (lo + 1) hi i) = lk_pR f lo hi i := by
  unfold lk_pR
  by_cases h2 : i = lo + 1
  · subst h2
    rw [if_pos rfl, if_neg (by omega), if_pos (by omega)]
  · rw [if_neg h2]
    by_cases h3 : lo + 1 < i ∧ i ≤ hi
    · rw [if_pos h3, if_pos (by omega)]
    · rw [if_neg h3, if_neg (by omega)]
theorem lk_insL_s (M : lk_M) {p k n r : Nat} (h : k + (r + 1) ≤ n) : lk_st (lk_st (lk_insL M p k n (r + 1)) 7 (5 * p + k + (r + 1)) (lk_insL M p k n (r + 1) 7 (5 * p + k + (r + 1) - 1))) 8 (5 * p + k + (r + 1)) (lk_insL M p k n (r + 1) 8 (5 * p + k + (r + 1) - 1)) = lk_insL M p k n r := by
  funext f i
  unfold lk_insL
  have e : 5 * p + k + (r + 1) = 5 * p + k + r + 1 := by omega
  simp only [lk_st_eq, lk_up_eq, e]
  by_cases h8 : f = 8
  · subst h8
    have := lk_pR_s (M 8) (5 * p + k + r) (5 * p + n) i (by omega)
    simpa using this
  · by_cases h7 : f = 7
    · subst h7
      have := lk_pR_s (M 7) (5 * p + k + r) (5 * p + n) i (by omega)
      simpa using this
    · simp [h8, h7]
theorem lk_insL_5 (M : lk_M) (p k n r x : Nat) : lk_insL M p k n r 5 x = M 5 x := by
  unfold lk_insL
  simp [lk_up_eq]
theorem lk_insL_e (M : lk_M) (p k n : Nat) (a b : Int32) : lk_st (lk_st (lk_st (lk_insL M p k n 0) 7 (5 * p + k) a) 8 (5 * p + k) b) 5 p (nI (n + 1)) = lk_ins M p k n a b := by
  funext f i
  unfold lk_insL lk_ins
  simp only [lk_st_eq, lk_up_eq, lk_shR, lk_pR, upd, Nat.add_zero]
  by_cases h5 : f = 5
  · subst h5; simp
  · by_cases h8 : f = 8
    · subst h8; simp
    · by_cases h7 : f = 7
      · subst h7; simp
      · simp [h5, h8, h7]
section
variable {pg : Program} {l : Launch} {en : Env} {R : Room} {s : State} {m : MethodId} {args : Array Value} {below : List Frame} {meth : Method} {cd : Code} {H : Heap} {locs : List Loc} {cells slots : Nat} {Q : State → Prop} {D : va_G} {τ : Nat → ClassId} {ad : Nat → Nat} {A : Nat → Prop} {H0 : Heap} {M : lk_M}
theorem w_MO_insert (X : lk_X pg s m args meth cd y_MO_insert b_MO_insert 6 (none) D τ) {p k n : Nat} {a b : Int32} (hp : p < 24) (hc : M 5 p = nI n) (hk : k ≤ n) (hn : n ≤ 4) : ∀ (r : Nat), k + r ≤ n → ∀ (H : Heap) (locs : List Loc) (ls : Array Slot), lk_H D lk_cl A H0 (lk_w 25 ad (lk_me τ ad (lk_insL M p k n r))) H locs → lv_has ls 6 [(5, .int (nI (5 * p + k + r))), (0, .ref (ad 0)), (1, .int (nI p)), (2, .int (nI k)), (3, .int a), (4, .int b)] → (∀ (H : Heap) (locs : List Loc) (ls : Array Slot), lk_H D lk_cl A H0 (lk_w 25 ad (lk_me τ ad (lk_insL M p k n 0))) H locs → lv_has ls 6 [(5, .int (nI (5 * p + k + 0))), (0, .ref (ad 0)), (1, .int (nI p)), (2, .int (nI k)), (3, .int a), (4, .int b)] → W pg l en R s m args below meth cd H locs cells slots Q (F0 m 60 ls [])) → W pg l en R s m args below meth cd H locs cells slots Q (F0 m 12 ls []) := by
  obtain ⟨hx, hb, -⟩ := id X
  intro r
  induction r with
  | zero =>
    intro hr H locs ls h hl kk
    refine lv_iload hx hb d_MO_insert_12 (lv_at hl 0 rfl) ?_
    refine lv_iconst (v := nI 5) hx hb d_MO_insert_14 (by decide) ?_
    refine lv_iload_n hx hb d_MO_insert_15 rfl (lv_at hl 2 rfl) ?_
    refine lk_imulN hx hb d_MO_insert_16 ?_
    refine lv_iload_n hx hb d_MO_insert_17 rfl (lv_at hl 3 rfl) ?_
    refine lk_iaddN hx hb d_MO_insert_18 ?_
    refine lk_cN_le (tgt := 60) hx hb (by omega) (by omega) d_MO_insert_19 (by decide) (fun h1 => ?_) (fun h1 => ?_)
    · exact kk H locs ls h hl
    · omega
  | succ r ih =>
    intro hr H locs ls h hl kk
    refine lv_iload hx hb d_MO_insert_12 (lv_at hl 0 rfl) ?_
    refine lv_iconst (v := nI 5) hx hb d_MO_insert_14 (by decide) ?_
    refine lv_iload_n hx hb d_MO_insert_15 rfl (lv_at hl 2 rfl) ?_
    refine lk_imulN hx hb d_MO_insert_16 ?_
    refine lv_iload_n hx hb d_MO_insert_17 rfl (lv_at hl 3 rfl) ?_
    refine lk_iaddN hx hb d_MO_insert_18 ?_
    refine lk_cN_le (tgt := 60) hx hb (by omega) (by omega) d_MO_insert_19 (by decide) (fun h1 => ?_) (fun h1 => ?_)
    · omega
    · refine lv_aload_n hx hb d_MO_insert_22 rfl (lv_at hl 1 rfl) ?_
      refine mo_get X rfl h 8 (by decide) rfl gf_MO_31 rfl d_MO_insert_23 ?_
      refine lv_iload hx hb d_MO_insert_26 (lv_at hl 0 rfl) ?_
      refine lv_aload_n hx hb d_MO_insert_28 rfl (lv_at hl 1 rfl) ?_
      refine mo_get X rfl h 8 (by decide) rfl gf_MO_31 rfl d_MO_insert_29 ?_
      refine lv_iload hx hb d_MO_insert_32 (lv_at hl 0 rfl) ?_
      refine lv_iconst (v := nI 1) hx hb d_MO_insert_34 (by decide) ?_
      refine lk_isubN hx hb (by omega) d_MO_insert_35 ?_
      refine mo_ald X h 7 120 rfl (by decide) (j := 5 * p + k + (r + 1) - 1) (by omega) (by decide) d_MO_insert_36 ?_
      refine mo_ast X h 7 120 rfl (by decide) (j := 5 * p + k + (r + 1)) (v := (lk_insL M p k n (r + 1)) 7 (5 * p + k + (r + 1) - 1)) (by omega) (by decide) d_MO_insert_37 (fun H locs h => ?_)
      refine lv_aload_n hx hb d_MO_insert_38 rfl (lv_at hl 1 rfl) ?_
      refine mo_get X rfl h 9 (by decide) rfl gf_MO_34 rfl d_MO_insert_39 ?_
      refine lv_iload hx hb d_MO_insert_42 (lv_at hl 0 rfl) ?_
      refine lv_aload_n hx hb d_MO_insert_44 rfl (lv_at hl 1 rfl) ?_
      refine mo_get X rfl h 9 (by decide) rfl gf_MO_34 rfl d_MO_insert_45 ?_
      refine lv_iload hx hb d_MO_insert_48 (lv_at hl 0 rfl) ?_
      refine lv_iconst (v := nI 1) hx hb d_MO_insert_50 (by decide) ?_
      refine lk_isubN hx hb (by omega) d_MO_insert_51 ?_
      refine mo_ald X h 8 120 rfl (by decide) (j := 5 * p + k + (r + 1) - 1) (by omega) (by decide) d_MO_insert_52 ?_
      refine lk_top ((lk_insL M p k n (r + 1)) 8 (5 * p + k + (r + 1) - 1)) (lk_st_f (by decide)) ?_
      refine mo_ast X h 8 120 rfl (by decide) (j := 5 * p + k + (r + 1)) (v := (lk_insL M p k n (r + 1)) 8 (5 * p + k + (r + 1) - 1)) (by omega) (by decide) d_MO_insert_53 (fun H locs h => ?_)
      refine lv_iinc (k := 0) (v := nI (5 * p + k + r)) hx hb d_MO_insert_54 hl rfl (pk_m1 _) (by decide) rfl (fun ls hl => ?_)
      have hl : lv_has ls 6 [(5, .int (nI (5 * p + k + r))), (0, .ref (ad 0)), (1, .int (nI p)), (2, .int (nI k)), (3, .int a), (4, .int b)] := hl
      refine lv_goto (tgt := 12) hx hb d_MO_insert_57 (by decide) ?_
      rw [lk_insL_s M hr] at h
      exact ih (by omega) H locs ls h hl kk
end
set_option maxRecDepth 20000 in
theorem c_MO_insert (l : Launch) (D : va_G) (τ : Nat → ClassId) (ad : Nat → Nat) (M : lk_M) (p k n : Nat) (hp : p < 24) (hc : M 5 p = nI n) (hk : k ≤ n) (hn : n ≤ 4) (a b : Int32) : lk_Cv l D τ 25 ad (lk_me τ ad) y_MO_insert b_MO_insert 6 0 0 [.ref (ad 0), .int (nI p), .int (nI k), .int a, .int b] M (fun M1 => M1 = lk_ins M p k n a b) := by
  refine lk_openv (by decide +kernel) (Nat.le_of_ble_eq_true rfl) ?_
  intro pg en s m args below meth cd ls A X h hA hl
  obtain ⟨hx, hb, -⟩ := id X
  have hl : lv_has ls 6 [(0, .ref (ad 0)), (1, .int (nI p)), (2, .int (nI k)), (3, .int a), (4, .int b)] := hl
  refine lv_iconst (v := nI 5) hx hb d_MO_insert_0 (by decide) ?_
  refine lv_iload_n hx hb d_MO_insert_1 rfl (lv_at hl 1 rfl) ?_
  refine lk_imulN hx hb d_MO_insert_2 ?_
  refine lv_aload_n hx hb d_MO_insert_3 rfl (lv_at hl 0 rfl) ?_
  refine mo_get X rfl h 6 (by decide) rfl gf_MO_25 rfl d_MO_insert_4 ?_
  refine lv_iload_n hx hb d_MO_insert_7 rfl (lv_at hl 1 rfl) ?_
  refine mo_ald X h 5 24 rfl (by decide) (j := p) (by omega) (by decide) d_MO_insert_8 ?_
  refine lk_top (nI n) (hc) ?_
  refine lk_iaddN hx hb d_MO_insert_9 ?_
  refine lv_istore hx hb d_MO_insert_10 hl (by decide) rfl (fun ls hl => ?_)
  have hl : lv_has ls 6 [(5, .int (nI (5 * p + n))), (0, .ref (ad 0)), (1, .int (nI p)), (2, .int (nI k)), (3, .int a), (4, .int b)] := hl
  obtain ⟨r, rfl⟩ : ∃ r, n = k + r := ⟨n - k, by omega⟩
  have hl : lv_has ls 6 [(5, .int (nI (5 * p + k + r))), (0, .ref (ad 0)), (1, .int (nI p)), (2, .int (nI k)), (3, .int a), (4, .int b)] := by rw [show 5 * p + k + r = 5 * p + (k + r) by omega]; exact hl
  refine w_MO_insert X hp hc hk hn r (Nat.le_refl _) _ _ ls (by rw [lk_insL_n M rfl]; exact h) hl (fun H locs ls h hl => ?_)
  have hc0 : lk_insL M p k (k + r) 0 5 p = nI (k + r) := (lk_insL_5 M p k (k + r) 0 p).trans hc
  refine lv_aload_n hx hb d_MO_insert_60 rfl (lv_at hl 1 rfl) ?_
  refine mo_get X rfl h 8 (by decide) rfl gf_MO_31 rfl d_MO_insert_61 ?_
  refine lv_iconst (v := nI 5) hx hb d_MO_insert_64 (by decide) ?_
  refine lv_iload_n hx hb d_MO_insert_65 rfl (lv_at hl 2 rfl) ?_
  refine lk_imulN hx hb d_MO_insert_66 ?_
  refine lv_iload_n hx hb d_MO_insert_67 rfl (lv_at hl 3 rfl) ?_
  refine lk_iaddN hx hb d_MO_insert_68 ?_
  refine lv_iload_n hx hb d_MO_insert_69 rfl (lv_at hl 4 rfl) ?_
  refine mo_ast X h 7 120 rfl (by decide) (j := 5 * p + k) (v := a) (by omega) (by decide) d_MO_insert_70 (fun H locs h => ?_)
  refine lv_aload_n hx hb d_MO_insert_71 rfl (lv_at hl 1 rfl) ?_
  refine mo_get X rfl h 9 (by decide) rfl gf_MO_34 rfl d_MO_insert_72 ?_
  refine lv_iconst (v := nI 5) hx hb d_MO_insert_75 (by decide) ?_
  refine lv_iload_n hx hb d_MO_insert_76 rfl (lv_at hl 2 rfl) ?_
  refine lk_imulN hx hb d_MO_insert_77 ?_
  refine lv_iload_n hx hb d_MO_insert_78 rfl (lv_at hl 3 rfl) ?_
  refine lk_iaddN hx hb d_MO_insert_79 ?_
  refine lv_iload hx hb d_MO_insert_80 (lv_at hl 5 rfl) ?_
  refine mo_ast X h 8 120 rfl (by decide) (j := 5 * p + k) (v := b) (by omega) (by decide) d_MO_insert_82 (fun H locs h => ?_)
  refine lv_aload_n hx hb d_MO_insert_83 rfl (lv_at hl 1 rfl) ?_
  refine mo_get X rfl h 6 (by decide) rfl gf_MO_25 rfl d_MO_insert_84 ?_
  refine lv_iload_n hx hb d_MO_insert_87 rfl (lv_at hl 2 rfl) ?_
  refine lv_dup2_11 hx hb d_MO_insert_88 rfl rfl ?_
  refine mo_ald X h 5 24 rfl (by decide) (j := p) (by omega) (by decide) d_MO_insert_89 ?_
  refine lk_top (nI (k + r)) ((lk_st_f (by decide)).trans ((lk_st_f (by decide)).trans (hc0))) ?_
  refine lv_iconst (v := nI 1) hx hb d_MO_insert_90 (by decide) ?_
  refine lk_iaddN hx hb d_MO_insert_91 ?_
  refine mo_ast X h 5 24 rfl (by decide) (j := p) (v := nI (k + r + 1)) (by omega) (by decide) d_MO_insert_92 (fun H locs h => ?_)
  exact lk_retv X h d_MO_insert_93 (lk_insL_e M p k (k + r) a b)
def lk_delL (M : lk_M) (p k n j : Nat) : lk_M := va_up (va_up (lk_st M 5 p (nI (n - 1))) 7 (lk_shL (M 7) (5 * p + k) (5 * p + k + j))) 8 (lk_shL (M 8) (5 * p + k) (5 * p + k + j))
theorem lk_shL_id (f : Nat → Int32) (lo : Nat) : lk_shL f lo (lo + 0) = f := by
  funext i
  unfold lk_shL
  rw [if_neg (by omega)]
theorem lk_delL_0 (M : lk_M) (p k n : Nat) : lk_delL M p k n 0 = lk_st M 5 p (nI (n - 1)) := by
  unfold lk_delL
  rw [lk_shL_id, lk_shL_id]
  funext f i
  simp only [lk_st_eq, lk_up_eq]
  by_cases h8 : f = 8
  · subst h8; simp
  · by_cases h7 : f = 7
    · subst h7; simp
    · simp [h8, h7]
theorem lk_shL_s (f : Nat → Int32) (lo j i : Nat) : (if i = lo + j then lk_shL f lo (lo + j) (lo + j + 1) else lk_shL f lo (lo + j) i) = lk_shL f lo (lo + (j + 1)) i := by
  unfold lk_shL
  by_cases h2 : i = lo + j
  · subst h2
    rw [if_pos rfl, if_neg (by omega), if_pos (by omega)]
  · rw [if_neg h2]
    by_cases h3 : lo ≤ i ∧ i < lo + j
    · rw [if_pos h3, if_pos (by omega)]
    · rw [if_neg h3, if_neg (by omega)]
theorem lk_delL_s (M : lk_M) (p k n j : Nat) : lk_st (lk_st (lk_delL M p k n j) 7 (5 * p + k + j) (lk_delL M p k n j 7 (5 * p + k + j + 1))) 8 (5 * p + k + j) (lk_delL M p k n j 8 (5 * p + k + j + 1)) = lk_delL M p k n (j + 1) := by
  funext f i
  unfold lk_delL
  simp only [lk_st_eq, lk_up_eq]
  by_cases h8 : f = 8
  · subst h8
    have := lk_shL_s (M 8) (5 * p + k) j i
    simpa using this
  · by_cases h7 : f = 7
    · subst h7
      have := lk_shL_s (M 7) (5 * p + k) j i
      simpa using this
    · simp [h8, h7]
theorem lk_delL_5 (M : lk_M) (p k n j : Nat) : lk_delL M p k n j 5 p = nI (n - 1) := by
  unfold lk_delL
  simp [lk_up_eq, lk_st_eq]
theorem lk_delL_e (M : lk_M) {p k n j : Nat} (h : k + j = n - 1) : lk_delL M p k n j = lk_del M p k n := by
  funext f i
  unfold lk_delL lk_del
  rw [show 5 * p + k + j = 5 * p + (n - 1) by omega]
  simp only [lk_st_eq, lk_up_eq, upd]
  by_cases h8 : f = 8
  · subst h8; simp
  · by_cases h7 : f = 7
    · subst h7; simp
    · by_cases h5 : f = 5
      · subst h5; simp
      · simp [h8, h7, h5]
section
variable {pg : Program} {l : Launch} {en : Env} {R : Room} {s : State} {m : MethodId} {args : Array Value} {below : List Frame} {meth : Method} {cd : Code} {H : Heap} {locs : List Loc} {cells slots : Nat} {Q : State → Prop} {D : va_G} {τ : Nat → ClassId} {ad : Nat → Nat} {A : Nat → Prop} {H0 : Heap} {M : lk_M}
theorem w_MO_takeOut (X : lk_X pg s m args meth cd y_MO_takeOut b_MO_takeOut 4 (none) D τ) {p k n : Nat} (hp : p < 24) (hk : k < n) (hn : n ≤ 5) : ∀ (r j : Nat), k + j + r = n - 1 → ∀ (H : Heap) (locs : List Loc) (ls : Array Slot), lk_H D lk_cl A H0 (lk_w 25 ad (lk_me τ ad (lk_delL M p k n j))) H locs → lv_has ls 4 [(3, .int (nI (5 * p + k + j))), (0, .ref (ad 0)), (1, .int (nI p)), (2, .int (nI k))] → (∀ (H : Heap) (locs : List Loc) (ls : Array Slot), lk_H D lk_cl A H0 (lk_w 25 ad (lk_me τ ad (lk_del M p k n))) H locs → W pg l en R s m args below meth cd H locs cells slots Q (F0 m 64 ls [])) → W pg l en R s m args below meth cd H locs cells slots Q (F0 m 16 ls []) := by
  obtain ⟨hx, hb, -⟩ := id X
  intro r
  induction r with
  | zero =>
    intro j hj H locs ls h hl kk
    have hc := lk_delL_5 M p k n j
    refine lv_iload_n hx hb d_MO_takeOut_16 rfl (lv_at hl 0 rfl) ?_
    refine lv_iconst (v := nI 5) hx hb d_MO_takeOut_17 (by decide) ?_
    refine lv_iload_n hx hb d_MO_takeOut_18 rfl (lv_at hl 2 rfl) ?_
    refine lk_imulN hx hb d_MO_takeOut_19 ?_
    refine lv_aload_n hx hb d_MO_takeOut_20 rfl (lv_at hl 1 rfl) ?_
    refine mo_get X rfl h 6 (by decide) rfl gf_MO_25 rfl d_MO_takeOut_21 ?_
    refine lv_iload_n hx hb d_MO_takeOut_24 rfl (lv_at hl 2 rfl) ?_
    refine mo_ald X h 5 24 rfl (by decide) (j := p) (by omega) (by decide) d_MO_takeOut_25 ?_
    refine lk_top (nI (n - 1)) (hc) ?_
    refine lk_iaddN hx hb d_MO_takeOut_26 ?_
    refine lk_cN_ge (tgt := 64) hx hb (by omega) (by omega) d_MO_takeOut_27 (by decide) (fun h1 => ?_) (fun h1 => ?_)
    · rw [lk_delL_e M (by omega)] at h
      exact kk H locs ls h
    · omega
  | succ r ih =>
    intro j hj H locs ls h hl kk
    have hc := lk_delL_5 M p k n j
    refine lv_iload_n hx hb d_MO_takeOut_16 rfl (lv_at hl 0 rfl) ?_
    refine lv_iconst (v := nI 5) hx hb d_MO_takeOut_17 (by decide) ?_
    refine lv_iload_n hx hb d_MO_takeOut_18 rfl (lv_at hl 2 rfl) ?_
    refine lk_imulN hx hb d_MO_takeOut_19 ?_
    refine lv_aload_n hx hb d_MO_takeOut_20 rfl (lv_at hl 1 rfl) ?_
    refine mo_get X rfl h 6 (by decide) rfl gf_MO_25 rfl d_MO_takeOut_21 ?_
    refine lv_iload_n hx hb d_MO_takeOut_24 rfl (lv_at hl 2 rfl) ?_
    refine mo_ald X h 5 24 rfl (by decide) (j := p) (by omega) (by decide) d_MO_takeOut_25 ?_
    refine lk_top (nI (n - 1)) (hc) ?_
    refine lk_iaddN hx hb d_MO_takeOut_26 ?_
    refine lk_cN_ge (tgt := 64) hx hb (by omega) (by omega) d_MO_takeOut_27 (by decide) (fun h1 => ?_) (fun h1 => ?_)
    · omega
    · refine lv_aload_n hx hb d_MO_takeOut_30 rfl (lv_at hl 1 rfl) ?_
      refine mo_get X rfl h 8 (by decide) rfl gf_MO_31 rfl d_MO_takeOut_31 ?_
      refine lv_iload_n hx hb d_MO_takeOut_34 rfl (lv_at hl 0 rfl) ?_
      refine lv_aload_n hx hb d_MO_takeOut_35 rfl (lv_at hl 1 rfl) ?_
      refine mo_get X rfl h 8 (by decide) rfl gf_MO_31 rfl d_MO_takeOut_36 ?_
      refine lv_iload_n hx hb d_MO_takeOut_39 rfl (lv_at hl 0 rfl) ?_
      refine lv_iconst (v := nI 1) hx hb d_MO_takeOut_40 (by decide) ?_
      refine lk_iaddN hx hb d_MO_takeOut_41 ?_
      refine mo_ald X h 7 120 rfl (by decide) (j := 5 * p + k + j + 1) (by omega) (by decide) d_MO_takeOut_42 ?_
      refine mo_ast X h 7 120 rfl (by decide) (j := 5 * p + k + j) (v := (lk_delL M p k n j) 7 (5 * p + k + j + 1)) (by omega) (by decide) d_MO_takeOut_43 (fun H locs h => ?_)
      refine lv_aload_n hx hb d_MO_takeOut_44 rfl (lv_at hl 1 rfl) ?_
      refine mo_get X rfl h 9 (by decide) rfl gf_MO_34 rfl d_MO_takeOut_45 ?_
      refine lv_iload_n hx hb d_MO_takeOut_48 rfl (lv_at hl 0 rfl) ?_
      refine lv_aload_n hx hb d_MO_takeOut_49 rfl (lv_at hl 1 rfl) ?_
      refine mo_get X rfl h 9 (by decide) rfl gf_MO_34 rfl d_MO_takeOut_50 ?_
      refine lv_iload_n hx hb d_MO_takeOut_53 rfl (lv_at hl 0 rfl) ?_
      refine lv_iconst (v := nI 1) hx hb d_MO_takeOut_54 (by decide) ?_
      refine lk_iaddN hx hb d_MO_takeOut_55 ?_
      refine mo_ald X h 8 120 rfl (by decide) (j := 5 * p + k + j + 1) (by omega) (by decide) d_MO_takeOut_56 ?_
      refine lk_top ((lk_delL M p k n j) 8 (5 * p + k + j + 1)) (lk_st_f (by decide)) ?_
      refine mo_ast X h 8 120 rfl (by decide) (j := 5 * p + k + j) (v := (lk_delL M p k n j) 8 (5 * p + k + j + 1)) (by omega) (by decide) d_MO_takeOut_57 (fun H locs h => ?_)
      refine lv_iinc (k := 0) (v := nI (5 * p + k + j + 1)) hx hb d_MO_takeOut_58 hl rfl (nI_1 _) (by decide) rfl (fun ls hl => ?_)
      have hl : lv_has ls 4 [(3, .int (nI (5 * p + k + j + 1))), (0, .ref (ad 0)), (1, .int (nI p)), (2, .int (nI k))] := hl
      refine lv_goto (tgt := 16) hx hb d_MO_takeOut_61 (by decide) ?_
      rw [lk_delL_s] at h
      exact ih (j + 1) (by omega) H locs ls h hl kk
end
set_option maxRecDepth 20000 in
theorem c_MO_takeOut (l : Launch) (D : va_G) (τ : Nat → ClassId) (ad : Nat → Nat) (M : lk_M) (p k n : Nat) (hp : p < 24) (hc : M 5 p = nI n) (hk : k < n) (hn : n ≤ 5) : lk_Cv l D τ 25 ad (lk_me τ ad) y_MO_takeOut b_MO_takeOut 4 0 0 [.ref (ad 0), .int (nI p), .int (nI k)] M (fun M1 => M1 = lk_del M p k n) := by
  refine lk_openv (by decide +kernel) (Nat.le_of_ble_eq_true rfl) ?_
  intro pg en s m args below meth cd ls A X h hA hl
  obtain ⟨hx, hb, -⟩ := id X
  have hl : lv_has ls 4 [(0, .ref (ad 0)), (1, .int (nI p)), (2, .int (nI k))] := hl
  refine lv_aload_n hx hb d_MO_takeOut_0 rfl (lv_at hl 0 rfl) ?_
  refine mo_get X rfl h 6 (by decide) rfl gf_MO_25 rfl d_MO_takeOut_1 ?_
  refine lv_iload_n hx hb d_MO_takeOut_4 rfl (lv_at hl 1 rfl) ?_
  refine lv_dup2_11 hx hb d_MO_takeOut_5 rfl rfl ?_
  refine mo_ald X h 5 24 rfl (by decide) (j := p) (by omega) (by decide) d_MO_takeOut_6 ?_
  refine lk_top (nI n) (hc) ?_
  refine lv_iconst (v := nI 1) hx hb d_MO_takeOut_7 (by decide) ?_
  refine lk_isubN hx hb (by omega) d_MO_takeOut_8 ?_
  refine mo_ast X h 5 24 rfl (by decide) (j := p) (v := nI (n - 1)) (by omega) (by decide) d_MO_takeOut_9 (fun H locs h => ?_)
  refine lv_iconst (v := nI 5) hx hb d_MO_takeOut_10 (by decide) ?_
  refine lv_iload_n hx hb d_MO_takeOut_11 rfl (lv_at hl 1 rfl) ?_
  refine lk_imulN hx hb d_MO_takeOut_12 ?_
  refine lv_iload_n hx hb d_MO_takeOut_13 rfl (lv_at hl 2 rfl) ?_
  refine lk_iaddN hx hb d_MO_takeOut_14 ?_
  refine lv_istore_n hx hb d_MO_takeOut_15 rfl hl (by decide) rfl (fun ls hl => ?_)
  have hl : lv_has ls 4 [(3, .int (nI (5 * p + k))), (0, .ref (ad 0)), (1, .int (nI p)), (2, .int (nI k))] := hl
  refine w_MO_takeOut X hp hk hn (n - 1 - k) 0 (by omega) _ _ ls (by rw [lk_delL_0]; exact h) hl (fun H locs ls h => ?_)
  exact lk_retv X h d_MO_takeOut_64 (rfl)
end
section
set_option maxRecDepth 20000 in
theorem c_MO_goRight (l : Launch) (D : va_G) (τ : Nat → ClassId) (ad : Nat → Nat) (M : lk_M) (t p : Nat) (ht : t < 4) (hp : p < 24) (hpl : M 14 t = nI p) : lk_Cv l D τ 25 ad (lk_me τ ad) y_MO_goRight b_MO_goRight 2 0 0 [.ref (ad 0), .int (nI t)] M (fun M1 => M1 = lk_rgt M t p) := by
  refine lk_openv (by decide +kernel) (Nat.le_of_ble_eq_true rfl) ?_
  intro pg en s m args below meth cd ls A X h hA hl
  obtain ⟨hx, hb, -⟩ := id X
  have hl : lv_has ls 2 [(0, .ref (ad 0)), (1, .int (nI t))] := hl
  refine lv_aload_n hx hb d_MO_goRight_0 rfl (lv_at hl 0 rfl) ?_
  refine mo_get X rfl h 17 (by decide) rfl gf_MO_53 rfl d_MO_goRight_1 ?_
  refine lv_iload_n hx hb d_MO_goRight_4 rfl (lv_at hl 1 rfl) ?_
  refine lv_aload_n hx hb d_MO_goRight_5 rfl (lv_at hl 0 rfl) ?_
  refine mo_get X rfl h 5 (by decide) rfl gf_MO_22 rfl d_MO_goRight_6 ?_
  refine lv_aload_n hx hb d_MO_goRight_9 rfl (lv_at hl 0 rfl) ?_
  refine mo_get X rfl h 17 (by decide) rfl gf_MO_53 rfl d_MO_goRight_10 ?_
  refine lv_iload_n hx hb d_MO_goRight_13 rfl (lv_at hl 1 rfl) ?_
  refine mo_ald X h 14 4 rfl (by decide) (j := t) (by omega) (by decide) d_MO_goRight_14 ?_
  refine lk_top (nI p) (hpl) ?_
  refine mo_ald X h 4 24 rfl (by decide) (j := p) (by omega) (by decide) d_MO_goRight_15 ?_
  refine mo_ast X h 14 4 rfl (by decide) (j := t) (v := M 4 p) (by omega) (by decide) d_MO_goRight_16 (fun H locs h => ?_)
  refine lv_aload_n hx hb d_MO_goRight_17 rfl (lv_at hl 0 rfl) ?_
  refine mo_get X rfl h 25 (by decide) rfl gf_MO_77 rfl d_MO_goRight_18 ?_
  refine lv_iconst (v := nI 4) hx hb d_MO_goRight_21 (by decide) ?_
  refine lv_iload_n hx hb d_MO_goRight_22 rfl (lv_at hl 1 rfl) ?_
  refine lk_imulN hx hb d_MO_goRight_23 ?_
  refine lv_iconst (v := nI 2) hx hb d_MO_goRight_24 (by decide) ?_
  refine lk_iaddN hx hb d_MO_goRight_25 ?_
  refine lv_dup2_11 hx hb d_MO_goRight_26 rfl rfl ?_
  refine mo_ald X h 22 16 rfl (by decide) (j := 4 * t + 2) (by omega) (by decide) d_MO_goRight_27 ?_
  refine lk_top (M 22 (4 * t + 2)) (lk_st_f (by decide)) ?_
  refine lv_iconst (v := 1) hx hb d_MO_goRight_28 (by decide) ?_
  refine lv_iadd hx hb d_MO_goRight_29 ?_
  refine mo_ast X h 22 16 rfl (by decide) (j := 4 * t + 2) (v := (M 22 (4 * t + 2)) + 1) (by omega) (by decide) d_MO_goRight_30 (fun H locs h => ?_)
  exact lk_retv X h d_MO_goRight_31 (rfl)
def mm_locks (σ : lk_M) (t p : Nat) : Int32 × lk_M := if σ 6 p = -1 then (0, lk_st (lk_st σ 6 p (nI t)) 13 t 2) else (1, σ)
set_option maxRecDepth 20000 in
theorem c_MO_locks (l : Launch) (D : va_G) (τ : Nat → ClassId) (ad : Nat → Nat) (M : lk_M) (t p : Nat) (ht : t < 4) (hp : p < 24) (hpl : M 14 t = nI p) : lk_Ci l D τ 25 ad (lk_me τ ad) y_MO_locks b_MO_locks 3 (.int) 0 0 [.ref (ad 0), .int (nI t)] M (fun r M1 => r = (mm_locks M t p).1 ∧ M1 = (mm_locks M t p).2) := by
  refine lk_openi (by decide +kernel) (Nat.le_of_ble_eq_true rfl) ?_
  intro pg en s m args below meth cd ls A X h hA hl
  obtain ⟨hx, hb, -⟩ := id X
  have hl : lv_has ls 3 [(0, .ref (ad 0)), (1, .int (nI t))] := hl
  refine lv_aload_n hx hb d_MO_locks_0 rfl (lv_at hl 0 rfl) ?_
  refine mo_get X rfl h 17 (by decide) rfl gf_MO_53 rfl d_MO_locks_1 ?_
  refine lv_iload_n hx hb d_MO_locks_4 rfl (lv_at hl 1 rfl) ?_
  refine mo_ald X h 14 4 rfl (by decide) (j := t) (by omega) (by decide) d_MO_locks_5 ?_
  refine lk_top (nI p) (hpl) ?_
  refine lv_istore_n hx hb d_MO_locks_6 rfl hl (by decide) rfl (fun ls hl => ?_)
  have hl : lv_has ls 3 [(2, .int (nI p)), (0, .ref (ad 0)), (1, .int (nI t))] := hl
  refine lv_aload_n hx hb d_MO_locks_7 rfl (lv_at hl 1 rfl) ?_
  refine mo_get X rfl h 7 (by decide) rfl gf_MO_28 rfl d_MO_locks_8 ?_
  refine lv_iload_n hx hb d_MO_locks_11 rfl (lv_at hl 0 rfl) ?_
  refine mo_ald X h 6 24 rfl (by decide) (j := p) (by omega) (by decide) d_MO_locks_12 ?_
  refine lv_iconst (v := (-1)) hx hb d_MO_locks_13 (by decide) ?_
  refine lv_icmp_eq (tgt := 19) hx hb d_MO_locks_14 (by decide) (fun h1 => ?_) (fun h1 => ?_)
  · refine lv_aload_n hx hb d_MO_locks_19 rfl (lv_at hl 1 rfl) ?_
    refine mo_get X rfl h 7 (by decide) rfl gf_MO_28 rfl d_MO_locks_20 ?_
    refine lv_iload_n hx hb d_MO_locks_23 rfl (lv_at hl 0 rfl) ?_
    refine lv_iload_n hx hb d_MO_locks_24 rfl (lv_at hl 2 rfl) ?_
    refine mo_ast X h 6 24 rfl (by decide) (j := p) (v := nI t) (by omega) (by decide) d_MO_locks_25 (fun H locs h => ?_)
    refine lv_aload_n hx hb d_MO_locks_26 rfl (lv_at hl 1 rfl) ?_
    refine mo_get X rfl h 16 (by decide) rfl gf_MO_50 rfl d_MO_locks_27 ?_
    refine lv_iload_n hx hb d_MO_locks_30 rfl (lv_at hl 2 rfl) ?_
    refine lv_iconst (v := 2) hx hb d_MO_locks_31 (by decide) ?_
    refine mo_ast X h 13 4 rfl (by decide) (j := t) (v := 2) (by omega) (by decide) d_MO_locks_32 (fun H locs h => ?_)
    refine lv_iconst (v := 0) hx hb d_MO_locks_33 (by decide) ?_
    exact lk_reti X h d_MO_locks_34 (by rw [mm_locks, if_pos h1]; exact ⟨rfl, rfl⟩)
  · refine lv_iconst (v := 1) hx hb d_MO_locks_17 (by decide) ?_
    exact lk_reti X h d_MO_locks_18 (by rw [mm_locks, if_neg h1]; exact ⟨rfl, rfl⟩)
def lk_ch (σ : lk_M) (p n : Nat) (x : Int32) : Nat := lk_ff (σ 8) x n (5 * p) - 5 * p
section
variable {pg : Program} {l : Launch} {en : Env} {R : Room} {s : State} {m : MethodId} {args : Array Value} {below : List Frame} {meth : Method} {cd : Code} {H : Heap} {locs : List Loc} {cells slots : Nat} {Q : State → Prop} {D : va_G} {τ : Nat → ClassId} {ad : Nat → Nat} {A : Nat → Prop} {H0 : Heap} {M : lk_M}
theorem w_MO_childOf (X : lk_X pg s m args meth cd y_MO_childOf b_MO_childOf 4 (some (.int)) D τ) (h : lk_H D lk_cl A s.heap (lk_w 25 ad (lk_me τ ad M)) H locs) {post : Int32 → lk_M → Prop} {q n : Nat} {x : Int32} (hq : q < 24) (hc : M 5 q = nI n) (hn : n ≤ 5) : ∀ (r i : Nat), i + r = n → post (lk_nn (lk_ff (M 8) x r (5 * q + i) - 5 * q) n) M → ∀ ls : Array Slot, lv_has ls 4 [(3, .int (nI i)), (0, .ref (ad 0)), (1, .int (nI q)), (2, .int x)] → W pg l en R s m args below meth cd H locs 0 0 (MQ below (va_Qi post (lk_Bh D τ 25 ad (lk_me τ ad)) A) args s 0 0 A) (F0 m 2 ls []) := by
  obtain ⟨hx, hb, -⟩ := id X
  intro r
  induction r with
  | zero =>
    intro i hi hp ls hl
    have e1 : lk_nn (lk_ff (M 8) x 0 (5 * q + i) - 5 * q) n = -1 := if_neg (by show ¬ 5 * q + i - 5 * q < n; omega)
    rw [e1] at hp
    refine lv_iload_n hx hb d_MO_childOf_2 rfl (lv_at hl 0 rfl) ?_
    refine lv_aload_n hx hb d_MO_childOf_3 rfl (lv_at hl 1 rfl) ?_
    refine mo_get X rfl h 6 (by decide) rfl gf_MO_25 rfl d_MO_childOf_4 ?_
    refine lv_iload_n hx hb d_MO_childOf_7 rfl (lv_at hl 2 rfl) ?_
    refine mo_ald X h 5 24 rfl (by decide) (j := q) (by omega) (by decide) d_MO_childOf_8 ?_
    refine lk_top (nI n) (hc) ?_
    refine lk_cN_ge (tgt := 34) hx hb (by omega) (by omega) d_MO_childOf_9 (by decide) (fun h1 => ?_) (fun h1 => ?_)
    · refine lv_iconst (v := (-1)) hx hb d_MO_childOf_34 (by decide) ?_
      exact lk_reti X h d_MO_childOf_35 (hp)
    · omega
  | succ r ih =>
    intro i hi hp ls hl
    have e0 : lk_ff (M 8) x (r + 1) (5 * q + i) = if M 8 (5 * q + i) = x then 5 * q + i else lk_ff (M 8) x r (5 * q + i + 1) := rfl
    refine lv_iload_n hx hb d_MO_childOf_2 rfl (lv_at hl 0 rfl) ?_
    refine lv_aload_n hx hb d_MO_childOf_3 rfl (lv_at hl 1 rfl) ?_
    refine mo_get X rfl h 6 (by decide) rfl gf_MO_25 rfl d_MO_childOf_4 ?_
    refine lv_iload_n hx hb d_MO_childOf_7 rfl (lv_at hl 2 rfl) ?_
    refine mo_ald X h 5 24 rfl (by decide) (j := q) (by omega) (by decide) d_MO_childOf_8 ?_
    refine lk_top (nI n) (hc) ?_
    refine lk_cN_ge (tgt := 34) hx hb (by omega) (by omega) d_MO_childOf_9 (by decide) (fun h1 => ?_) (fun h1 => ?_)
    · omega
    · refine lv_aload_n hx hb d_MO_childOf_12 rfl (lv_at hl 1 rfl) ?_
      refine mo_get X rfl h 9 (by decide) rfl gf_MO_34 rfl d_MO_childOf_13 ?_
      refine lv_iconst (v := nI 5) hx hb d_MO_childOf_16 (by decide) ?_
      refine lv_iload_n hx hb d_MO_childOf_17 rfl (lv_at hl 2 rfl) ?_
      refine lk_imulN hx hb d_MO_childOf_18 ?_
      refine lv_iload_n hx hb d_MO_childOf_19 rfl (lv_at hl 0 rfl) ?_
      refine lk_iaddN hx hb d_MO_childOf_20 ?_
      refine mo_ald X h 8 120 rfl (by decide) (j := 5 * q + i) (by omega) (by decide) d_MO_childOf_21 ?_
      refine lv_iload_n hx hb d_MO_childOf_22 rfl (lv_at hl 3 rfl) ?_
      refine lv_icmp_ne (tgt := 28) hx hb d_MO_childOf_23 (by decide) (fun h2 => ?_) (fun h2 => ?_)
      · refine lv_iinc (k := 0) (v := nI (i + 1)) hx hb d_MO_childOf_28 hl rfl (nI_1 _) (by decide) rfl (fun ls hl => ?_)
        have hl : lv_has ls 4 [(3, .int (nI (i + 1))), (0, .ref (ad 0)), (1, .int (nI q)), (2, .int x)] := hl
        refine lv_goto (tgt := 2) hx hb d_MO_childOf_31 (by decide) ?_
        refine ih (i + 1) (by omega) ?_ ls hl
        rw [e0, if_neg h2, show 5 * q + i + 1 = 5 * q + (i + 1) by omega] at hp
        exact hp
      · refine lv_iload_n hx hb d_MO_childOf_26 rfl (lv_at hl 0 rfl) ?_
        rw [e0, if_pos h2] at hp
        have e1 : lk_nn (5 * q + i - 5 * q) n = nI i := by rw [show 5 * q + i - 5 * q = i by omega]; exact if_pos (by omega)
        rw [e1] at hp
        exact lk_reti X h d_MO_childOf_27 (hp)
end
set_option maxRecDepth 20000 in
theorem c_MO_childOf (l : Launch) (D : va_G) (τ : Nat → ClassId) (ad : Nat → Nat) (M : lk_M) (q n : Nat) (hq : q < 24) (hc : M 5 q = nI n) (hn : n ≤ 5) (x : Int32) : lk_Ci l D τ 25 ad (lk_me τ ad) y_MO_childOf b_MO_childOf 4 (.int) 0 0 [.ref (ad 0), .int (nI q), .int x] M (fun r M1 => r = lk_nn (lk_ch M q n x) n ∧ M1 = M) := by
  refine lk_openi (by decide +kernel) (Nat.le_of_ble_eq_true rfl) ?_
  intro pg en s m args below meth cd ls A X h hA hl
  obtain ⟨hx, hb, -⟩ := id X
  have hl : lv_has ls 4 [(0, .ref (ad 0)), (1, .int (nI q)), (2, .int x)] := hl
  refine lv_iconst (v := nI 0) hx hb d_MO_childOf_0 (by decide) ?_
  refine lv_istore_n hx hb d_MO_childOf_1 rfl hl (by decide) rfl (fun ls hl => ?_)
  have hl : lv_has ls 4 [(3, .int (nI 0)), (0, .ref (ad 0)), (1, .int (nI q)), (2, .int x)] := hl
  exact w_MO_childOf X h hq hc hn n 0 (by omega) ⟨rfl, rfl⟩ ls hl
theorem lk_in24 {x : Int32} (h : 0 ≤ x ∧ x ≤ 23) : ∃ j : Nat, j < 24 ∧ x = nI j := by
  obtain ⟨j, h1, h2⟩ := nI_of2 (x := x) (M := 23) (n := 23) (by decide) (Int32.not_lt.mpr h.1) h.2
  exact ⟨j, by omega, h2⟩
theorem lk_in24' {j : Nat} (h : j < 24) : 0 ≤ nI j ∧ nI j ≤ 23 := ⟨nI_pos' (by omega), nI_le (b := 23) (by omega) (by decide)⟩
theorem lk_in4 {x : Int32} (h : 0 ≤ x ∧ x ≤ 3) : ∃ j : Nat, j < 4 ∧ x = nI j := by
  obtain ⟨j, h1, h2⟩ := nI_of2 (x := x) (M := 3) (n := 3) (by decide) (Int32.not_lt.mpr h.1) h.2
  exact ⟨j, by omega, h2⟩
theorem lk_in4' {j : Nat} (h : j < 4) : 0 ≤ nI j ∧ nI j ≤ 3 := ⟨nI_pos' (by omega), nI_le (b := 3) (by omega) (by decide)⟩
def lk_isn (σ : lk_M) (x : Int32) : Prop := ∃ j : Nat, j < 24 ∧ x = nI j ∧ σ 0 j = 1
set_option maxRecDepth 20000 in
theorem c_MO_isNode (l : Launch) (D : va_G) (τ : Nat → ClassId) (ad : Nat → Nat) (M : lk_M) (x : Int32) : lk_Ci l D τ 25 ad (lk_me τ ad) y_MO_isNode b_MO_isNode 2 (.boolean) 1 22 [.ref (ad 0), .int x] M (fun r M1 => (r = 1 ∧ lk_isn M x ∨ r = 0 ∧ ¬ lk_isn M x) ∧ M1 = M) := by
  refine lk_openi (by decide +kernel) (Nat.le_of_ble_eq_true rfl) ?_
  intro pg en s m args below meth cd ls A X h hA hl
  obtain ⟨hx, hb, -⟩ := id X
  have hl : lv_has ls 2 [(0, .ref (ad 0)), (1, .int x)] := hl
  refine lv_iload_n hx hb d_MO_isNode_0 rfl (lv_at hl 1 rfl) ?_
  refine lv_iconst (v := 0) hx hb d_MO_isNode_1 (by decide) ?_
  refine lv_bipush (v := 23) hx hb d_MO_isNode_2 (by decide) ?_
  refine lk_goi (lk_runS (As := [.int x, .int 0, .int 23]) X h (c_MO_within l D τ ad M x 0 23) ⟨gc_MO_within, gm_MO_101, gn_MO, gd_MO_within, by decide, by decide⟩ gt_MO_within rfl hl.1 (Nat.le_of_ble_eq_true rfl) d_MO_isNode_4 ⟨Nat.zero_le _, Nat.zero_le _⟩) h hA (fun r4 σ4 H locs hk9 h => ?_)
  rw [hk9.2] at h
  rw [hk9.1]
  refine lv_if_eq (tgt := 24) hx hb d_MO_isNode_7 (by decide) (fun h1 => ?_) (fun h1 => ?_)
  · refine lv_iconst (v := 0) hx hb d_MO_isNode_24 (by decide) ?_
    exact lk_retz X h d_MO_isNode_25 (by decide) (⟨Or.inr ⟨rfl, fun ⟨j, h2, h3, _⟩ => lk_if0 h1 (by rw [h3]; exact lk_in24' h2)⟩, rfl⟩)
  · obtain ⟨j, hj, rfl⟩ := lk_in24 (lk_if1 h1)
    refine lv_aload_n hx hb d_MO_isNode_10 rfl (lv_at hl 0 rfl) ?_
    refine mo_get X rfl h 1 (by decide) rfl gf_MO_7 rfl d_MO_isNode_11 ?_
    refine lv_iload_n hx hb d_MO_isNode_14 rfl (lv_at hl 1 rfl) ?_
    refine mo_ald X h 0 24 rfl (by decide) (j := j) (by omega) (by decide) d_MO_isNode_15 ?_
    refine lv_iconst (v := 1) hx hb d_MO_isNode_16 (by decide) ?_
    refine lv_icmp_ne (tgt := 24) hx hb d_MO_isNode_17 (by decide) (fun h2 => ?_) (fun h2 => ?_)
    · refine lv_iconst (v := 0) hx hb d_MO_isNode_24 (by decide) ?_
      exact lk_retz X h d_MO_isNode_25 (by decide) (⟨Or.inr ⟨rfl, fun ⟨i, h3, h4, h5⟩ => h2 (by rw [(nI_eq (by omega) (by omega)).mp h4]; exact h5)⟩, rfl⟩)
    · refine lv_iconst (v := 1) hx hb d_MO_isNode_20 (by decide) ?_
      refine lv_goto (tgt := 25) hx hb d_MO_isNode_21 (by decide) ?_
      exact lk_retz X h d_MO_isNode_25 (by decide) (⟨Or.inl ⟨rfl, j, hj, rfl, h2⟩, rfl⟩)
set_option maxRecDepth 20000 in
theorem c_MO_restart (l : Launch) (D : va_G) (τ : Nat → ClassId) (ad : Nat → Nat) (M : lk_M) (t : Nat) (ht : t < 4) : lk_Ci l D τ 25 ad (lk_me τ ad) y_MO_restart b_MO_restart 2 (.int) 1 22 [.ref (ad 0), .int (nI t)] M (fun r M1 => r = 0 ∧ M1 = lk_rst M t) := by
  refine lk_openi (by decide +kernel) (Nat.le_of_ble_eq_true rfl) ?_
  intro pg en s m args below meth cd ls A X h hA hl
  obtain ⟨hx, hb, -⟩ := id X
  have hl : lv_has ls 2 [(0, .ref (ad 0)), (1, .int (nI t))] := hl
  refine lv_aload_n hx hb d_MO_restart_0 rfl (lv_at hl 0 rfl) ?_
  refine lv_iload_n hx hb d_MO_restart_1 rfl (lv_at hl 1 rfl) ?_
  refine lk_gov (lk_runV (As := [.int (nI t)]) (C := R_MO) X h (c_MO_forgetPath l D τ ad M t ht) ⟨gc_MO_forgetPath, gm_MO_105, gn_MO, gd_MO_forgetPath, by decide, by decide⟩ gi_MO_forgetPath gs_MO_forgetPath ⟨0, 4, _, _, _, lk_w_get (by decide), rfl⟩ rfl hl.1 (Nat.le_of_ble_eq_true rfl) d_MO_restart_2 ⟨Nat.zero_le _, Nat.zero_le _⟩) h hA (fun σ2 H locs hk9 h => ?_)
  rw [hk9] at h
  refine lv_aload_n hx hb d_MO_restart_5 rfl (lv_at hl 0 rfl) ?_
  refine lv_iload_n hx hb d_MO_restart_6 rfl (lv_at hl 1 rfl) ?_
  refine lv_aload_n hx hb d_MO_restart_7 rfl (lv_at hl 0 rfl) ?_
  refine mo_get X rfl h 11 (by decide) rfl gf_MO_108 rfl d_MO_restart_8 ?_
  refine lk_top (M 24 0) (rfl) ?_
  refine lk_gov (lk_runV (As := [.int (nI t), .int (M 24 0)]) (C := R_MO) X h (c_MO_search l D τ ad _ t ht _) ⟨gc_MO_search, gm_MO_111, gn_MO, gd_MO_search, by decide, by decide⟩ gi_MO_search gs_MO_search ⟨0, 4, _, _, _, lk_w_get (by decide), rfl⟩ rfl hl.1 (Nat.le_of_ble_eq_true rfl) d_MO_restart_11 ⟨Nat.zero_le _, Nat.zero_le _⟩) h hA (fun σ11 H locs hk9 h => ?_)
  rw [hk9] at h
  refine lv_aload_n hx hb d_MO_restart_14 rfl (lv_at hl 0 rfl) ?_
  refine mo_get X rfl h 25 (by decide) rfl gf_MO_77 rfl d_MO_restart_15 ?_
  refine lv_iconst (v := nI 4) hx hb d_MO_restart_18 (by decide) ?_
  refine lv_iload_n hx hb d_MO_restart_19 rfl (lv_at hl 1 rfl) ?_
  refine lk_imulN hx hb d_MO_restart_20 ?_
  refine lv_iconst (v := nI 3) hx hb d_MO_restart_21 (by decide) ?_
  refine lk_iaddN hx hb d_MO_restart_22 ?_
  refine lv_dup2_11 hx hb d_MO_restart_23 rfl rfl ?_
  refine mo_ald X h 22 16 rfl (by decide) (j := 4 * t + 3) (by omega) (by decide) d_MO_restart_24 ?_
  refine lk_top (M 22 (4 * t + 3)) (rfl) ?_
  refine lv_iconst (v := 1) hx hb d_MO_restart_25 (by decide) ?_
  refine lv_iadd hx hb d_MO_restart_26 ?_
  refine mo_ast X h 22 16 rfl (by decide) (j := 4 * t + 3) (v := (M 22 (4 * t + 3)) + 1) (by omega) (by decide) d_MO_restart_27 (fun H locs h => ?_)
  refine lv_iconst (v := 0) hx hb d_MO_restart_28 (by decide) ?_
  exact lk_reti X h d_MO_restart_29 (⟨rfl, rfl⟩)
def mm_finL (σ : lk_M) (t k : Nat) : lk_M :=
  va_up (va_up σ 9 (fun p => if p < k then σ 9 p &&& lk_off t else σ 9 p)) 0 (fun p => if p < k ∧ σ 0 p = 2 ∧ σ 9 p &&& lk_off t = 0 then 0 else σ 0 p)
def mm_fin (σ : lk_M) (t : Nat) (a : Int32) : lk_M := mm_finL (lk_st (lk_st (lk_st σ 21 t a) 20 t 1) 11 t 0) t 24
theorem mm_finL_0 (σ : lk_M) (t : Nat) : mm_finL σ t 0 = σ := by
  funext f i
  unfold mm_finL
  simp only [lk_up_eq]
  by_cases h0 : f = 0
  · subst h0; simp
  · by_cases h9 : f = 9
    · subst h9; simp
    · simp [h0, h9]
theorem mm_finL_s (σ : lk_M) (t k : Nat) : mm_rel (lk_st (mm_finL σ t k) 9 k (mm_finL σ t k 9 k &&& ((1 <<< (nI t &&& 31)) ^^^ (-1)))) k = mm_finL σ t (k + 1) := by
  have e9 : mm_finL σ t k 9 k = σ 9 k := by unfold mm_finL; simp [lk_up_eq]
  have e0 : mm_finL σ t k 0 k = σ 0 k := by unfold mm_finL; simp [lk_up_eq]
  have eo : ((1 : Int32) <<< (nI t &&& 31)) ^^^ (-1) = lk_off t := rfl
  rw [e9, eo]
  unfold mm_rel
  rw [lk_st_f (by decide), e0, lk_st_s]
  by_cases hc : σ 0 k = 2 ∧ σ 9 k &&& lk_off t = 0
  · rw [if_pos hc]
    funext f i
    unfold mm_finL
    simp only [lk_st_eq, lk_up_eq]
    by_cases h0 : f = 0
    · subst h0
      by_cases hi : i = k
      · subst hi; simp [hc]
      · simp only [hi, and_false, if_false, if_true, true_and]
        by_cases hl : i < k
        · simp [hl, show i < k + 1 by omega]
        · simp [hl, show ¬ i < k + 1 by omega]
    · by_cases h9 : f = 9
      · subst h9
        by_cases hi : i = k
        · subst hi; simp
        · simp only [hi, and_false, if_false, if_true]
          by_cases hl : i < k
          · simp [hl, show i < k + 1 by omega]
          · simp [hl, show ¬ i < k + 1 by omega]
      · simp [h0, h9]
  · rw [if_neg hc]
    funext f i
    unfold mm_finL
    simp only [lk_st_eq, lk_up_eq]
    by_cases h0 : f = 0
    · subst h0
      by_cases hi : i = k
      · subst hi; simp [hc]
      · simp only [if_true]
        by_cases hl : i < k
        · simp [hl, show i < k + 1 by omega]
        · simp [hl, show ¬ i < k + 1 by omega]
    · by_cases h9 : f = 9
      · subst h9
        by_cases hi : i = k
        · subst hi; simp
        · simp only [hi, and_false, if_false, if_true]
          by_cases hl : i < k
          · simp [hl, show i < k + 1 by omega]
          · simp [hl, show ¬ i < k + 1 by omega]
      · simp [h0, h9]
section
variable {pg : Program} {l : Launch} {en : Env} {R : Room} {s : State} {m : MethodId} {args : Array Value} {below : List Frame} {meth : Method} {cd : Code} {H : Heap} {locs : List Loc} {cells slots : Nat} {Q : State → Prop} {D : va_G} {τ : Nat → ClassId} {ad : Nat → Nat} {A : Nat → Prop} {H0 : Heap} {M : lk_M}
theorem w_MO_finish (X : lk_X pg s m args meth cd y_MO_finish b_MO_finish 4 (some (.int)) D τ) (hA : ∀ q, H0.size ≤ q → A q) (hR : 1 ≤ R.frames ∧ 21 ≤ R.locals) {t : Nat} {a : Int32} (ht : t < 4) : ∀ (r k : Nat), k + r = 24 → ∀ (H : Heap) (locs : List Loc) (ls : Array Slot), lk_H D lk_cl A H0 (lk_w 25 ad (lk_me τ ad (mm_finL M t k))) H locs → lv_has ls 4 [(3, .int (nI k)), (0, .ref (ad 0)), (1, .int (nI t)), (2, .int a)] → (∀ (H : Heap) (locs : List Loc) (ls : Array Slot), lk_H D lk_cl A H0 (lk_w 25 ad (lk_me τ ad (mm_finL M t 24))) H locs → W pg l en R s m args below meth cd H locs 0 0 Q (F0 m 54 ls [])) → W pg l en R s m args below meth cd H locs 0 0 Q (F0 m 23 ls []) := by
  obtain ⟨hx, hb, -⟩ := id X
  intro r
  induction r with
  | zero =>
    intro k hk H locs ls h hl kk
    have hk : k = 24 := by omega
    subst hk
    refine lv_iload_n hx hb d_MO_finish_23 rfl (lv_at hl 0 rfl) ?_
    refine lv_bipush (v := nI 24) hx hb d_MO_finish_24 (by decide) ?_
    refine lk_cN_ge (tgt := 54) hx hb (by omega) (by omega) d_MO_finish_26 (by decide) (fun h1 => ?_) (fun h1 => ?_)
    · exact kk H locs ls h
    · omega
  | succ r ih =>
    intro k hk H locs ls h hl kk
    refine lv_iload_n hx hb d_MO_finish_23 rfl (lv_at hl 0 rfl) ?_
    refine lv_bipush (v := nI 24) hx hb d_MO_finish_24 (by decide) ?_
    refine lk_cN_ge (tgt := 54) hx hb (by omega) (by omega) d_MO_finish_26 (by decide) (fun h1 => ?_) (fun h1 => ?_)
    · omega
    · refine lv_aload_n hx hb d_MO_finish_29 rfl (lv_at hl 1 rfl) ?_
      refine mo_get X rfl h 10 (by decide) rfl gf_MO_37 rfl d_MO_finish_30 ?_
      refine lv_iload_n hx hb d_MO_finish_33 rfl (lv_at hl 0 rfl) ?_
      refine lv_dup2_11 hx hb d_MO_finish_34 rfl rfl ?_
      refine mo_ald X h 9 24 rfl (by decide) (j := k) (by omega) (by decide) d_MO_finish_35 ?_
      refine lv_iconst (v := 1) hx hb d_MO_finish_36 (by decide) ?_
      refine lv_iload_n hx hb d_MO_finish_37 rfl (lv_at hl 2 rfl) ?_
      refine lv_ishl hx hb d_MO_finish_38 ?_
      refine lv_iconst (v := (-1)) hx hb d_MO_finish_39 (by decide) ?_
      refine lv_ixor hx hb d_MO_finish_40 ?_
      refine lv_iand hx hb d_MO_finish_41 ?_
      refine mo_ast X h 9 24 rfl (by decide) (j := k) (v := ((mm_finL M t k) 9 k) &&& ((1 <<< ((nI t) &&& 31)) ^^^ (-1))) (by omega) (by decide) d_MO_finish_42 (fun H locs h => ?_)
      refine lv_aload_n hx hb d_MO_finish_43 rfl (lv_at hl 1 rfl) ?_
      refine lv_iload_n hx hb d_MO_finish_44 rfl (lv_at hl 0 rfl) ?_
      refine lk_gov (lk_runV (As := [.int (nI k)]) (C := R_MO) X h (c_MO_release l D τ ad _ k (by omega)) ⟨gc_MO_release, gm_MO_98, gn_MO, gd_MO_release, (hR).1, (hR).2⟩ gi_MO_release gs_MO_release ⟨0, 4, _, _, _, lk_w_get (by decide), rfl⟩ rfl hl.1 (Nat.le_of_ble_eq_true rfl) d_MO_finish_45 ⟨Nat.zero_le _, Nat.zero_le _⟩) h hA (fun σ45 H locs hk9 h => ?_)
      rw [hk9, mm_finL_s] at h
      refine lv_iinc (k := 0) (v := nI (k + 1)) hx hb d_MO_finish_48 hl rfl (nI_1 _) (by decide) rfl (fun ls hl => ?_)
      have hl : lv_has ls 4 [(3, .int (nI (k + 1))), (0, .ref (ad 0)), (1, .int (nI t)), (2, .int a)] := hl
      refine lv_goto (tgt := 23) hx hb d_MO_finish_51 (by decide) ?_
      exact ih (k + 1) (by omega) H locs ls h hl kk
end
set_option maxRecDepth 20000 in
theorem c_MO_finish (l : Launch) (D : va_G) (τ : Nat → ClassId) (ad : Nat → Nat) (M : lk_M) (t : Nat) (ht : t < 4) (a : Int32) : lk_Ci l D τ 25 ad (lk_me τ ad) y_MO_finish b_MO_finish 4 (.int) 1 21 [.ref (ad 0), .int (nI t), .int a] M (fun r M1 => r = 2 ∧ M1 = mm_fin M t a) := by
  refine lk_openi (by decide +kernel) (Nat.le_of_ble_eq_true rfl) ?_
  intro pg en s m args below meth cd ls A X h hA hl
  obtain ⟨hx, hb, -⟩ := id X
  have hl : lv_has ls 4 [(0, .ref (ad 0)), (1, .int (nI t)), (2, .int a)] := hl
  refine lv_aload_n hx hb d_MO_finish_0 rfl (lv_at hl 0 rfl) ?_
  refine mo_get X rfl h 24 (by decide) rfl gf_MO_74 rfl d_MO_finish_1 ?_
  refine lv_iload_n hx hb d_MO_finish_4 rfl (lv_at hl 1 rfl) ?_
  refine lv_iload_n hx hb d_MO_finish_5 rfl (lv_at hl 2 rfl) ?_
  refine mo_ast X h 21 4 rfl (by decide) (j := t) (v := a) (by omega) (by decide) d_MO_finish_6 (fun H locs h => ?_)
  refine lv_aload_n hx hb d_MO_finish_7 rfl (lv_at hl 0 rfl) ?_
  refine mo_get X rfl h 23 (by decide) rfl gf_MO_71 rfl d_MO_finish_8 ?_
  refine lv_iload_n hx hb d_MO_finish_11 rfl (lv_at hl 1 rfl) ?_
  refine lv_iconst (v := 1) hx hb d_MO_finish_12 (by decide) ?_
  refine mo_zast X h 20 (by decide) (j := t) (v := 1) (by decide) (by omega) d_MO_finish_13 (fun H locs h => ?_)
  refine lv_aload_n hx hb d_MO_finish_14 rfl (lv_at hl 0 rfl) ?_
  refine mo_get X rfl h 14 (by decide) rfl gf_MO_43 rfl d_MO_finish_15 ?_
  refine lv_iload_n hx hb d_MO_finish_18 rfl (lv_at hl 1 rfl) ?_
  refine lv_iconst (v := 0) hx hb d_MO_finish_19 (by decide) ?_
  refine mo_zast X h 11 (by decide) (j := t) (v := 0) (by decide) (by omega) d_MO_finish_20 (fun H locs h => ?_)
  refine lv_iconst (v := nI 0) hx hb d_MO_finish_21 (by decide) ?_
  refine lv_istore_n hx hb d_MO_finish_22 rfl hl (by decide) rfl (fun ls hl => ?_)
  have hl : lv_has ls 4 [(3, .int (nI 0)), (0, .ref (ad 0)), (1, .int (nI t)), (2, .int a)] := hl
  refine w_MO_finish X hA (by decide) ht 24 0 (by omega) _ _ ls (by rw [mm_finL_0]; exact h) hl (fun H locs ls h => ?_)
  refine lv_iconst (v := 2) hx hb d_MO_finish_54 (by decide) ?_
  exact lk_reti X h d_MO_finish_55 (⟨rfl, rfl⟩)
def lk_hb (f : Nat → Int32) (x : Int32) (i : Nat) (b : Int32) : Prop := (b = 0 ∧ ¬ lk_has f x i) ∨ (b = 1 ∧ lk_has f x i)
theorem lk_has_s {f : Nat → Int32} {x : Int32} {i : Nat} : lk_has f x (i + 1) ↔ (lk_has f x i ∨ f i = x) := by
  constructor
  · intro ⟨j, h1, h2⟩
    by_cases e : j = i
    · right; rw [← e]; exact h2
    · left; exact ⟨j, by omega, h2⟩
  · intro z
    rcases z with ⟨j, h1, h2⟩ | z
    · exact ⟨j, by omega, h2⟩
    · exact ⟨i, by omega, z⟩
section
variable {pg : Program} {l : Launch} {en : Env} {R : Room} {s : State} {m : MethodId} {args : Array Value} {below : List Frame} {meth : Method} {cd : Code} {H : Heap} {locs : List Loc} {cells slots : Nat} {Q : State → Prop} {D : va_G} {τ : Nat → ClassId} {ad : Nat → Nat} {A : Nat → Prop} {H0 : Heap} {M : lk_M}
theorem w_MO_comeIntoQueue (X : lk_X pg s m args meth cd y_MO_comeIntoQueue b_MO_comeIntoQueue 4 (none) D τ) (h : lk_H D lk_cl A H0 (lk_w 25 ad (lk_me τ ad M)) H locs) {n : Nat} {x : Int32} (hc : M 24 1 = nI n) (hn : n ≤ 12) : ∀ (r i : Nat), i + r = n → ∀ (b : Int32), lk_hb (M 10) x i b → ∀ ls : Array Slot, lv_has ls 4 [(3, .int (nI i)), (2, .int b), (0, .ref (ad 0)), (1, .int x)] → (∀ (b : Int32) (ls : Array Slot), lk_hb (M 10) x n b → lv_has ls 4 [(3, .int (nI n)), (2, .int b), (0, .ref (ad 0)), (1, .int x)] → W pg l en R s m args below meth cd H locs cells slots Q (F0 m 38 ls [])) → W pg l en R s m args below meth cd H locs cells slots Q (F0 m 4 ls []) := by
  obtain ⟨hx, hb, -⟩ := id X
  intro r
  induction r with
  | zero =>
    intro i hi b hB ls hl kk
    have hi : i = n := by omega
    subst hi
    refine lv_iload_n hx hb d_MO_comeIntoQueue_4 rfl (lv_at hl 0 rfl) ?_
    refine lv_aload_n hx hb d_MO_comeIntoQueue_5 rfl (lv_at hl 2 rfl) ?_
    refine mo_get X rfl h 12 (by decide) rfl gf_MO_91 rfl d_MO_comeIntoQueue_6 ?_
    refine lk_top (nI i) (hc) ?_
    refine lk_cN_ge (tgt := 38) hx hb (by omega) (by omega) d_MO_comeIntoQueue_9 (by decide) (fun h1 => ?_) (fun h1 => ?_)
    · exact kk b ls hB hl
    · omega
  | succ r ih =>
    intro i hi b hB ls hl kk
    refine lv_iload_n hx hb d_MO_comeIntoQueue_4 rfl (lv_at hl 0 rfl) ?_
    refine lv_aload_n hx hb d_MO_comeIntoQueue_5 rfl (lv_at hl 2 rfl) ?_
    refine mo_get X rfl h 12 (by decide) rfl gf_MO_91 rfl d_MO_comeIntoQueue_6 ?_
    refine lk_top (nI n) (hc) ?_
    refine lk_cN_ge (tgt := 38) hx hb (by omega) (by omega) d_MO_comeIntoQueue_9 (by decide) (fun h1 => ?_) (fun h1 => ?_)
    · omega
    · refine lv_iload_n hx hb d_MO_comeIntoQueue_12 rfl (lv_at hl 1 rfl) ?_
      refine lv_if_ne (tgt := 26) hx hb d_MO_comeIntoQueue_13 (by decide) (fun h2 => ?_) (fun h2 => ?_)
      · refine lv_iconst (v := 1) hx hb d_MO_comeIntoQueue_26 (by decide) ?_
        refine lv_goto (tgt := 31) hx hb d_MO_comeIntoQueue_27 (by decide) ?_
        refine lv_istore_n hx hb d_MO_comeIntoQueue_31 rfl hl (by decide) rfl (fun ls hl => ?_)
        have hl : lv_has ls 4 [(2, .int 1), (3, .int (nI i)), (0, .ref (ad 0)), (1, .int x)] := hl
        refine lv_iinc (k := 1) (v := nI (i + 1)) hx hb d_MO_comeIntoQueue_32 hl rfl (nI_1 _) (by decide) rfl (fun ls hl => ?_)
        have hl : lv_has ls 4 [(3, .int (nI (i + 1))), (2, .int 1), (0, .ref (ad 0)), (1, .int x)] := hl
        refine lv_goto (tgt := 4) hx hb d_MO_comeIntoQueue_35 (by decide) ?_
        refine ih (i + 1) (by omega) 1 (Or.inr ⟨rfl, lk_has_s.mpr (Or.inl ?_)⟩) ls hl kk
        exact hB.elim (fun z => absurd z.1 h2) (fun z => z.2)
      · refine lv_aload_n hx hb d_MO_comeIntoQueue_16 rfl (lv_at hl 2 rfl) ?_
        refine mo_get X rfl h 13 (by decide) rfl gf_MO_40 rfl d_MO_comeIntoQueue_17 ?_
        refine lv_iload_n hx hb d_MO_comeIntoQueue_20 rfl (lv_at hl 0 rfl) ?_
        refine mo_ald X h 10 12 rfl (by decide) (j := i) (by omega) (by decide) d_MO_comeIntoQueue_21 ?_
        refine lv_iload_n hx hb d_MO_comeIntoQueue_22 rfl (lv_at hl 3 rfl) ?_
        refine lv_icmp_ne (tgt := 30) hx hb d_MO_comeIntoQueue_23 (by decide) (fun h3 => ?_) (fun h3 => ?_)
        · refine lv_iconst (v := nI 0) hx hb d_MO_comeIntoQueue_30 (by decide) ?_
          refine lv_istore_n hx hb d_MO_comeIntoQueue_31 rfl hl (by decide) rfl (fun ls hl => ?_)
          have hl : lv_has ls 4 [(2, .int (nI 0)), (3, .int (nI i)), (0, .ref (ad 0)), (1, .int x)] := hl
          refine lv_iinc (k := 1) (v := nI (i + 1)) hx hb d_MO_comeIntoQueue_32 hl rfl (nI_1 _) (by decide) rfl (fun ls hl => ?_)
          have hl : lv_has ls 4 [(3, .int (nI (i + 1))), (2, .int (nI 0)), (0, .ref (ad 0)), (1, .int x)] := hl
          refine lv_goto (tgt := 4) hx hb d_MO_comeIntoQueue_35 (by decide) ?_
          refine ih (i + 1) (by omega) 0 (Or.inl ⟨rfl, fun z => (lk_has_s.mp z).elim ?_ h3⟩) ls hl kk
          exact hB.elim (fun z => z.2) (fun z => absurd (z.1.symm.trans h2) (by decide))
        · refine lv_iconst (v := 1) hx hb d_MO_comeIntoQueue_26 (by decide) ?_
          refine lv_goto (tgt := 31) hx hb d_MO_comeIntoQueue_27 (by decide) ?_
          refine lv_istore_n hx hb d_MO_comeIntoQueue_31 rfl hl (by decide) rfl (fun ls hl => ?_)
          have hl : lv_has ls 4 [(2, .int 1), (3, .int (nI i)), (0, .ref (ad 0)), (1, .int x)] := hl
          refine lv_iinc (k := 1) (v := nI (i + 1)) hx hb d_MO_comeIntoQueue_32 hl rfl (nI_1 _) (by decide) rfl (fun ls hl => ?_)
          have hl : lv_has ls 4 [(3, .int (nI (i + 1))), (2, .int 1), (0, .ref (ad 0)), (1, .int x)] := hl
          refine lv_goto (tgt := 4) hx hb d_MO_comeIntoQueue_35 (by decide) ?_
          exact ih (i + 1) (by omega) 1 (Or.inr ⟨rfl, lk_has_s.mpr (Or.inr h3)⟩) ls hl kk
end
set_option maxRecDepth 20000 in
theorem c_MO_comeIntoQueue (l : Launch) (D : va_G) (τ : Nat → ClassId) (ad : Nat → Nat) (M : lk_M) (n : Nat) (hc : M 24 1 = nI n) (hn : n ≤ 12) (x : Int32) : lk_Cv l D τ 25 ad (lk_me τ ad) y_MO_comeIntoQueue b_MO_comeIntoQueue 4 0 0 [.ref (ad 0), .int x] M (fun M1 => M1 = lk_cq M x n) := by
  refine lk_openv (by decide +kernel) (Nat.le_of_ble_eq_true rfl) ?_
  intro pg en s m args below meth cd ls A X h hA hl
  obtain ⟨hx, hb, -⟩ := id X
  have hl : lv_has ls 4 [(0, .ref (ad 0)), (1, .int x)] := hl
  refine lv_iconst (v := 0) hx hb d_MO_comeIntoQueue_0 (by decide) ?_
  refine lv_istore_n hx hb d_MO_comeIntoQueue_1 rfl hl (by decide) rfl (fun ls hl => ?_)
  have hl : lv_has ls 4 [(2, .int 0), (0, .ref (ad 0)), (1, .int x)] := hl
  refine lv_iconst (v := nI 0) hx hb d_MO_comeIntoQueue_2 (by decide) ?_
  refine lv_istore_n hx hb d_MO_comeIntoQueue_3 rfl hl (by decide) rfl (fun ls hl => ?_)
  have hl : lv_has ls 4 [(3, .int (nI 0)), (2, .int 0), (0, .ref (ad 0)), (1, .int x)] := hl
  refine w_MO_comeIntoQueue X h hc hn n 0 (by omega) 0 (Or.inl ⟨rfl, fun ⟨j, hj, _⟩ => by omega⟩) ls hl (fun b ls hB hl => ?_)
  refine lv_iload_n hx hb d_MO_comeIntoQueue_38 rfl (lv_at hl 1 rfl) ?_
  refine lv_if_ne (tgt := 51) hx hb d_MO_comeIntoQueue_39 (by decide) (fun h1 => ?_) (fun h1 => ?_)
  · exact lk_retv X h d_MO_comeIntoQueue_51 ((if_pos (Or.inl (hB.elim (fun z => absurd z.1 h1) (fun z => z.2)))).symm)
  · refine lv_aload_n hx hb d_MO_comeIntoQueue_42 rfl (lv_at hl 2 rfl) ?_
    refine mo_get X rfl h 12 (by decide) rfl gf_MO_91 rfl d_MO_comeIntoQueue_43 ?_
    refine lk_top (nI n) (hc) ?_
    refine lv_bipush (v := nI 12) hx hb d_MO_comeIntoQueue_46 (by decide) ?_
    refine lk_cN_ne (tgt := 52) hx hb (by omega) (by omega) d_MO_comeIntoQueue_48 (by decide) (fun h2 => ?_) (fun h2 => ?_)
    · refine lv_aload_n hx hb d_MO_comeIntoQueue_52 rfl (lv_at hl 2 rfl) ?_
      refine mo_get X rfl h 13 (by decide) rfl gf_MO_40 rfl d_MO_comeIntoQueue_53 ?_
      refine lv_aload_n hx hb d_MO_comeIntoQueue_56 rfl (lv_at hl 2 rfl) ?_
      refine mo_get X rfl h 12 (by decide) rfl gf_MO_91 rfl d_MO_comeIntoQueue_57 ?_
      refine lk_top (nI n) (hc) ?_
      refine lv_iload_n hx hb d_MO_comeIntoQueue_60 rfl (lv_at hl 3 rfl) ?_
      refine mo_ast X h 10 12 rfl (by decide) (j := n) (v := x) (by omega) (by decide) d_MO_comeIntoQueue_61 (fun H locs h => ?_)
      refine lv_aload_n hx hb d_MO_comeIntoQueue_62 rfl (lv_at hl 2 rfl) ?_
      refine lv_dup hx hb d_MO_comeIntoQueue_63 rfl ?_
      refine mo_get X rfl h 12 (by decide) rfl gf_MO_91 rfl d_MO_comeIntoQueue_64 ?_
      refine lk_top (nI n) ((lk_st_f (by decide)).trans (hc)) ?_
      refine lv_iconst (v := nI 1) hx hb d_MO_comeIntoQueue_67 (by decide) ?_
      refine lk_iaddN hx hb d_MO_comeIntoQueue_68 ?_
      refine mo_put X rfl h 12 1 (by decide) gf_MO_91 d_MO_comeIntoQueue_69 (fun H locs h => ?_)
      exact lk_retv X h d_MO_comeIntoQueue_72 ((if_neg (fun z => z.elim (fun q => hB.elim (fun y => y.2 q) (fun y => absurd (y.1.symm.trans h1) (by decide))) h2)).symm)
    · exact lk_retv X h d_MO_comeIntoQueue_51 ((if_pos (Or.inr h2)).symm)
def lk_lqL (M : lk_M) (x : Int32) (i : Nat) : lk_M := va_up M 10 (lk_cmp (M 10) x i).1
theorem lk_lqL_0 (M : lk_M) (x : Int32) : lk_lqL M x 0 = M := lk_up_id M 10
theorem lk_lqL_10 (M : lk_M) (x : Int32) (i j : Nat) : lk_lqL M x i 10 j = (lk_cmp (M 10) x i).1 j := by
  unfold lk_lqL; simp [lk_up_eq]
theorem lk_cmp_s (f : Nat → Int32) (x : Int32) (i : Nat) : lk_cmp f x (i + 1) = if (lk_cmp f x i).1 i = x then lk_cmp f x i else (upd (lk_cmp f x i).1 (lk_cmp f x i).2 ((lk_cmp f x i).1 i), (lk_cmp f x i).2 + 1) := rfl
theorem lk_lqL_s (M : lk_M) {x : Int32} {i : Nat} (h : ¬ lk_lqL M x i 10 i = x) : lk_st (lk_lqL M x i) 10 (lk_cmp (M 10) x i).2 (lk_lqL M x i 10 i) = lk_lqL M x (i + 1) ∧ (lk_cmp (M 10) x i).2 + 1 = (lk_cmp (M 10) x (i + 1)).2 := by
  rw [lk_lqL_10] at h ⊢
  have e := lk_cmp_s (M 10) x i
  rw [if_neg h] at e
  refine ⟨?_, by rw [e]⟩
  have e1 : lk_lqL M x (i + 1) = va_up M 10 (upd (lk_cmp (M 10) x i).1 (lk_cmp (M 10) x i).2 ((lk_cmp (M 10) x i).1 i)) := by
    unfold lk_lqL; rw [e]
  rw [e1]
  funext f j
  unfold lk_lqL
  simp only [lk_st_eq, lk_up_eq, upd]
  by_cases hf : f = 10
  · subst hf; simp
  · simp [hf]
theorem lk_lqL_c (M : lk_M) {x : Int32} {i : Nat} (h : lk_lqL M x i 10 i = x) : lk_lqL M x i = lk_lqL M x (i + 1) ∧ (lk_cmp (M 10) x i).2 = (lk_cmp (M 10) x (i + 1)).2 := by
  rw [lk_lqL_10] at h
  have e := lk_cmp_s (M 10) x i
  rw [if_pos h] at e
  unfold lk_lqL
  rw [e]
  exact ⟨rfl, rfl⟩
theorem lk_lqL_24 (M : lk_M) (x : Int32) (i j : Nat) : lk_lqL M x i 24 j = M 24 j := by
  unfold lk_lqL; simp [lk_up_eq]
theorem lk_lqL_e (M : lk_M) (x : Int32) (n : Nat) : lk_st (lk_lqL M x n) 24 1 (nI (lk_cmp (M 10) x n).2) = lk_lq M x n := by
  funext f j
  unfold lk_lqL lk_lq
  simp only [lk_st_eq, lk_up_eq, upd]
  by_cases hf : f = 24
  · subst hf; simp
  · simp [hf]
section
variable {pg : Program} {l : Launch} {en : Env} {R : Room} {s : State} {m : MethodId} {args : Array Value} {below : List Frame} {meth : Method} {cd : Code} {H : Heap} {locs : List Loc} {cells slots : Nat} {Q : State → Prop} {D : va_G} {τ : Nat → ClassId} {ad : Nat → Nat} {A : Nat → Prop} {H0 : Heap} {M : lk_M}
theorem w_MO_leaveQueue (X : lk_X pg s m args meth cd y_MO_leaveQueue b_MO_leaveQueue 4 (none) D τ) {n : Nat} {x : Int32} (hc : M 24 1 = nI n) (hn : n ≤ 12) : ∀ (r i : Nat), i + r = n → ∀ (H : Heap) (locs : List Loc) (ls : Array Slot), lk_H D lk_cl A H0 (lk_w 25 ad (lk_me τ ad (lk_lqL M x i))) H locs → lv_has ls 4 [(3, .int (nI i)), (2, .int (nI ((lk_cmp (M 10) x i).2))), (0, .ref (ad 0)), (1, .int x)] → (∀ (H : Heap) (locs : List Loc) (ls : Array Slot), lk_H D lk_cl A H0 (lk_w 25 ad (lk_me τ ad (lk_lqL M x n))) H locs → lv_has ls 4 [(3, .int (nI n)), (2, .int (nI ((lk_cmp (M 10) x n).2))), (0, .ref (ad 0)), (1, .int x)] → W pg l en R s m args below meth cd H locs cells slots Q (F0 m 46 ls [])) → W pg l en R s m args below meth cd H locs cells slots Q (F0 m 4 ls []) := by
  obtain ⟨hx, hb, -⟩ := id X
  intro r
  induction r with
  | zero =>
    intro i hi H locs ls h hl kk
    have hi : i = n := by omega
    subst hi
    have hc1 := (lk_lqL_24 M x i 1).trans hc
    refine lv_iload_n hx hb d_MO_leaveQueue_4 rfl (lv_at hl 0 rfl) ?_
    refine lv_aload_n hx hb d_MO_leaveQueue_5 rfl (lv_at hl 2 rfl) ?_
    refine mo_get X rfl h 12 (by decide) rfl gf_MO_91 rfl d_MO_leaveQueue_6 ?_
    refine lk_top (nI i) (hc1) ?_
    refine lk_cN_ge (tgt := 46) hx hb (by omega) (by omega) d_MO_leaveQueue_9 (by decide) (fun h1 => ?_) (fun h1 => ?_)
    · exact kk H locs ls h hl
    · omega
  | succ r ih =>
    intro i hi H locs ls h hl kk
    have hle := lk_cmp_le (M 10) x i
    have hc1 := (lk_lqL_24 M x i 1).trans hc
    refine lv_iload_n hx hb d_MO_leaveQueue_4 rfl (lv_at hl 0 rfl) ?_
    refine lv_aload_n hx hb d_MO_leaveQueue_5 rfl (lv_at hl 2 rfl) ?_
    refine mo_get X rfl h 12 (by decide) rfl gf_MO_91 rfl d_MO_leaveQueue_6 ?_
    refine lk_top (nI n) (hc1) ?_
    refine lk_cN_ge (tgt := 46) hx hb (by omega) (by omega) d_MO_leaveQueue_9 (by decide) (fun h1 => ?_) (fun h1 => ?_)
    · omega
    · refine lv_aload_n hx hb d_MO_leaveQueue_12 rfl (lv_at hl 2 rfl) ?_
      refine mo_get X rfl h 13 (by decide) rfl gf_MO_40 rfl d_MO_leaveQueue_13 ?_
      refine lv_iload_n hx hb d_MO_leaveQueue_16 rfl (lv_at hl 0 rfl) ?_
      refine mo_ald X h 10 12 rfl (by decide) (j := i) (by omega) (by decide) d_MO_leaveQueue_17 ?_
      refine lv_iload_n hx hb d_MO_leaveQueue_18 rfl (lv_at hl 3 rfl) ?_
      refine lv_icmp_ne (tgt := 25) hx hb d_MO_leaveQueue_19 (by decide) (fun h2 => ?_) (fun h2 => ?_)
      · obtain ⟨e1, e2⟩ := lk_lqL_s M h2
        refine lv_aload_n hx hb d_MO_leaveQueue_25 rfl (lv_at hl 2 rfl) ?_
        refine mo_get X rfl h 13 (by decide) rfl gf_MO_40 rfl d_MO_leaveQueue_26 ?_
        refine lv_iload_n hx hb d_MO_leaveQueue_29 rfl (lv_at hl 1 rfl) ?_
        refine lv_aload_n hx hb d_MO_leaveQueue_30 rfl (lv_at hl 2 rfl) ?_
        refine mo_get X rfl h 13 (by decide) rfl gf_MO_40 rfl d_MO_leaveQueue_31 ?_
        refine lv_iload_n hx hb d_MO_leaveQueue_34 rfl (lv_at hl 0 rfl) ?_
        refine mo_ald X h 10 12 rfl (by decide) (j := i) (by omega) (by decide) d_MO_leaveQueue_35 ?_
        refine mo_ast X h 10 12 rfl (by decide) (j := (lk_cmp (M 10) x i).2) (v := (lk_lqL M x i) 10 i) (by omega) (by decide) d_MO_leaveQueue_36 (fun H locs h => ?_)
        refine lv_iinc (k := 1) (v := nI ((lk_cmp (M 10) x i).2 + 1)) hx hb d_MO_leaveQueue_37 hl rfl (nI_1 _) (by decide) rfl (fun ls hl => ?_)
        have hl : lv_has ls 4 [(2, .int (nI ((lk_cmp (M 10) x i).2 + 1))), (3, .int (nI i)), (0, .ref (ad 0)), (1, .int x)] := hl
        refine lv_iinc (k := 1) (v := nI (i + 1)) hx hb d_MO_leaveQueue_40 hl rfl (nI_1 _) (by decide) rfl (fun ls hl => ?_)
        have hl : lv_has ls 4 [(3, .int (nI (i + 1))), (2, .int (nI ((lk_cmp (M 10) x i).2 + 1))), (0, .ref (ad 0)), (1, .int x)] := hl
        refine lv_goto (tgt := 4) hx hb d_MO_leaveQueue_43 (by decide) ?_
        rw [e1] at h
        rw [e2] at hl
        exact ih (i + 1) (by omega) H locs ls h hl kk
      · obtain ⟨e1, e2⟩ := lk_lqL_c M h2
        refine lv_goto (tgt := 40) hx hb d_MO_leaveQueue_22 (by decide) ?_
        refine lv_iinc (k := 0) (v := nI (i + 1)) hx hb d_MO_leaveQueue_40 hl rfl (nI_1 _) (by decide) rfl (fun ls hl => ?_)
        have hl : lv_has ls 4 [(3, .int (nI (i + 1))), (2, .int (nI ((lk_cmp (M 10) x i).2))), (0, .ref (ad 0)), (1, .int x)] := hl
        refine lv_goto (tgt := 4) hx hb d_MO_leaveQueue_43 (by decide) ?_
        rw [e1] at h
        rw [e2] at hl
        exact ih (i + 1) (by omega) H locs ls h hl kk
end
set_option maxRecDepth 20000 in
theorem c_MO_leaveQueue (l : Launch) (D : va_G) (τ : Nat → ClassId) (ad : Nat → Nat) (M : lk_M) (n : Nat) (hc : M 24 1 = nI n) (hn : n ≤ 12) (x : Int32) : lk_Cv l D τ 25 ad (lk_me τ ad) y_MO_leaveQueue b_MO_leaveQueue 4 0 0 [.ref (ad 0), .int x] M (fun M1 => M1 = lk_lq M x n) := by
  refine lk_openv (by decide +kernel) (Nat.le_of_ble_eq_true rfl) ?_
  intro pg en s m args below meth cd ls A X h hA hl
  obtain ⟨hx, hb, -⟩ := id X
  have hl : lv_has ls 4 [(0, .ref (ad 0)), (1, .int x)] := hl
  refine lv_iconst (v := nI 0) hx hb d_MO_leaveQueue_0 (by decide) ?_
  refine lv_istore_n hx hb d_MO_leaveQueue_1 rfl hl (by decide) rfl (fun ls hl => ?_)
  have hl : lv_has ls 4 [(2, .int (nI 0)), (0, .ref (ad 0)), (1, .int x)] := hl
  refine lv_iconst (v := nI 0) hx hb d_MO_leaveQueue_2 (by decide) ?_
  refine lv_istore_n hx hb d_MO_leaveQueue_3 rfl hl (by decide) rfl (fun ls hl => ?_)
  have hl : lv_has ls 4 [(3, .int (nI 0)), (2, .int (nI 0)), (0, .ref (ad 0)), (1, .int x)] := hl
  refine w_MO_leaveQueue X hc hn n 0 (by omega) _ _ ls (by rw [lk_lqL_0]; exact h) hl (fun H locs ls h hl => ?_)
  refine lv_aload_n hx hb d_MO_leaveQueue_46 rfl (lv_at hl 2 rfl) ?_
  refine lv_iload_n hx hb d_MO_leaveQueue_47 rfl (lv_at hl 1 rfl) ?_
  refine mo_put X rfl h 12 1 (by decide) gf_MO_91 d_MO_leaveQueue_48 (fun H locs h => ?_)
  exact lk_retv X h d_MO_leaveQueue_51 (lk_lqL_e M x n)
theorem lk_mask_s (b : Nat → Prop) (t0 t : Nat) : lk_mask b t0 (t + 1) = @ite _ (b t ∧ t ≠ t0) (Classical.propDecidable _) (lk_mask b t0 t ||| lk_bit t) (lk_mask b t0 t) := rfl
noncomputable def mm_die (σ : lk_M) (p t n : Nat) : lk_M :=
  mm_rel (lk_st (lk_lq (lk_st σ 0 p 2) (nI p) n) 9 p (lk_mask (fun u => σ 11 u ≠ 0) t 4)) p
theorem lk_lq_11 (σ : lk_M) (x : Int32) (n j : Nat) : lk_lq σ x n 11 j = σ 11 j := by
  unfold lk_lq; simp [lk_up_eq]
section
variable {pg : Program} {l : Launch} {en : Env} {R : Room} {s : State} {m : MethodId} {args : Array Value} {below : List Frame} {meth : Method} {cd : Code} {H : Heap} {locs : List Loc} {cells slots : Nat} {Q : State → Prop} {D : va_G} {τ : Nat → ClassId} {ad : Nat → Nat} {A : Nat → Prop} {H0 : Heap} {M : lk_M}
theorem w_MO_die (X : lk_X pg s m args meth cd y_MO_die b_MO_die 4 (none) D τ) {p t n : Nat} (hp : p < 24) (ht : t < 4) : ∀ (r k : Nat), k + r = 4 → ∀ (H : Heap) (locs : List Loc) (ls : Array Slot), lk_H D lk_cl A H0 (lk_w 25 ad (lk_me τ ad (lk_st (lk_lq (lk_st M 0 p 2) (nI p) n) 9 p (lk_mask (fun u => M 11 u ≠ 0) t k)))) H locs → lv_has ls 4 [(3, .int (nI k)), (0, .ref (ad 0)), (1, .int (nI p)), (2, .int (nI t))] → (∀ (H : Heap) (locs : List Loc) (ls : Array Slot), lk_H D lk_cl A H0 (lk_w 25 ad (lk_me τ ad (lk_st (lk_lq (lk_st M 0 p 2) (nI p) n) 9 p (lk_mask (fun u => M 11 u ≠ 0) t 4)))) H locs → lv_has ls 4 [(3, .int (nI 4)), (0, .ref (ad 0)), (1, .int (nI p)), (2, .int (nI t))] → W pg l en R s m args below meth cd H locs cells slots Q (F0 m 58 ls [])) → W pg l en R s m args below meth cd H locs cells slots Q (F0 m 21 ls []) := by
  obtain ⟨hx, hb, -⟩ := id X
  intro r
  induction r with
  | zero =>
    intro k hk H locs ls h hl kk
    have hk : k = 4 := by omega
    subst hk
    refine lv_iload_n hx hb d_MO_die_21 rfl (lv_at hl 0 rfl) ?_
    refine lv_iconst (v := nI 4) hx hb d_MO_die_22 (by decide) ?_
    refine lk_cN_ge (tgt := 58) hx hb (by omega) (by omega) d_MO_die_23 (by decide) (fun h1 => ?_) (fun h1 => ?_)
    · exact kk H locs ls h hl
    · omega
  | succ r ih =>
    intro k hk H locs ls h hl kk
    have hb11 : (lk_lq (lk_st M 0 p 2) (nI p) n) 11 k = M 11 k := (lk_lq_11 _ _ _ _).trans (lk_st_f (by decide))
    have hms := lk_mask_s (fun u => M 11 u ≠ 0) t k
    refine lv_iload_n hx hb d_MO_die_21 rfl (lv_at hl 0 rfl) ?_
    refine lv_iconst (v := nI 4) hx hb d_MO_die_22 (by decide) ?_
    refine lk_cN_ge (tgt := 58) hx hb (by omega) (by omega) d_MO_die_23 (by decide) (fun h1 => ?_) (fun h1 => ?_)
    · omega
    · refine lv_aload_n hx hb d_MO_die_26 rfl (lv_at hl 1 rfl) ?_
      refine mo_get X rfl h 14 (by decide) rfl gf_MO_43 rfl d_MO_die_27 ?_
      refine lv_iload_n hx hb d_MO_die_30 rfl (lv_at hl 0 rfl) ?_
      refine mo_zald X h 11 (by decide) (j := k) (by omega) d_MO_die_31 ?_
      refine lk_top (M 11 k) ((lk_st_f (by decide)).trans (hb11)) ?_
      refine lv_if_eq (tgt := 52) hx hb d_MO_die_32 (by decide) (fun h2 => ?_) (fun h2 => ?_)
      · refine lv_iinc (k := 0) (v := nI (k + 1)) hx hb d_MO_die_52 hl rfl (nI_1 _) (by decide) rfl (fun ls hl => ?_)
        have hl : lv_has ls 4 [(3, .int (nI (k + 1))), (0, .ref (ad 0)), (1, .int (nI p)), (2, .int (nI t))] := hl
        refine lv_goto (tgt := 21) hx hb d_MO_die_55 (by decide) ?_
        rw [if_neg (fun z => z.1 h2)] at hms
        rw [← hms] at h
        exact ih (k + 1) (by omega) H locs ls h hl kk
      · refine lv_iload_n hx hb d_MO_die_35 rfl (lv_at hl 0 rfl) ?_
        refine lv_iload_n hx hb d_MO_die_36 rfl (lv_at hl 3 rfl) ?_
        refine lk_cN_eq (tgt := 52) hx hb (by omega) (by omega) d_MO_die_37 (by decide) (fun h3 => ?_) (fun h3 => ?_)
        · refine lv_iinc (k := 0) (v := nI (k + 1)) hx hb d_MO_die_52 hl rfl (nI_1 _) (by decide) rfl (fun ls hl => ?_)
          have hl : lv_has ls 4 [(3, .int (nI (k + 1))), (0, .ref (ad 0)), (1, .int (nI p)), (2, .int (nI t))] := hl
          refine lv_goto (tgt := 21) hx hb d_MO_die_55 (by decide) ?_
          rw [if_neg (fun z => z.2 h3)] at hms
          rw [← hms] at h
          exact ih (k + 1) (by omega) H locs ls h hl kk
        · refine lv_aload_n hx hb d_MO_die_40 rfl (lv_at hl 1 rfl) ?_
          refine mo_get X rfl h 10 (by decide) rfl gf_MO_37 rfl d_MO_die_41 ?_
          refine lv_iload_n hx hb d_MO_die_44 rfl (lv_at hl 2 rfl) ?_
          refine lv_dup2_11 hx hb d_MO_die_45 rfl rfl ?_
          refine mo_ald X h 9 24 rfl (by decide) (j := p) (by omega) (by decide) d_MO_die_46 ?_
          refine lk_top (lk_mask (fun u => M 11 u ≠ 0) t k) (lk_st_s) ?_
          refine lv_iconst (v := 1) hx hb d_MO_die_47 (by decide) ?_
          refine lv_iload_n hx hb d_MO_die_48 rfl (lv_at hl 0 rfl) ?_
          refine lv_ishl hx hb d_MO_die_49 ?_
          refine lv_ior hx hb d_MO_die_50 ?_
          refine mo_ast X h 9 24 rfl (by decide) (j := p) (v := (lk_mask (fun u => M 11 u ≠ 0) t k) ||| (1 <<< ((nI k) &&& 31))) (by omega) (by decide) d_MO_die_51 (fun H locs h => ?_)
          refine lv_iinc (k := 0) (v := nI (k + 1)) hx hb d_MO_die_52 hl rfl (nI_1 _) (by decide) rfl (fun ls hl => ?_)
          have hl : lv_has ls 4 [(3, .int (nI (k + 1))), (0, .ref (ad 0)), (1, .int (nI p)), (2, .int (nI t))] := hl
          refine lv_goto (tgt := 21) hx hb d_MO_die_55 (by decide) ?_
          rw [if_pos ⟨h2, h3⟩] at hms
          rw [lk_st_st, show lk_mask (fun u => M 11 u ≠ 0) t k ||| (1 <<< (nI k &&& 31)) = lk_mask (fun u => M 11 u ≠ 0) t (k + 1) from hms.symm] at h
          exact ih (k + 1) (by omega) H locs ls h hl kk
end
set_option maxRecDepth 20000 in
theorem c_MO_die (l : Launch) (D : va_G) (τ : Nat → ClassId) (ad : Nat → Nat) (M : lk_M) (p t n : Nat) (hp : p < 24) (ht : t < 4) (hc : M 24 1 = nI n) (hn : n ≤ 12) : lk_Cv l D τ 25 ad (lk_me τ ad) y_MO_die b_MO_die 4 1 23 [.ref (ad 0), .int (nI p), .int (nI t)] M (fun M1 => M1 = mm_die M p t n) := by
  refine lk_openv (by decide +kernel) (Nat.le_of_ble_eq_true rfl) ?_
  intro pg en s m args below meth cd ls A X h hA hl
  obtain ⟨hx, hb, -⟩ := id X
  have hl : lv_has ls 4 [(0, .ref (ad 0)), (1, .int (nI p)), (2, .int (nI t))] := hl
  refine lv_aload_n hx hb d_MO_die_0 rfl (lv_at hl 0 rfl) ?_
  refine mo_get X rfl h 1 (by decide) rfl gf_MO_7 rfl d_MO_die_1 ?_
  refine lv_iload_n hx hb d_MO_die_4 rfl (lv_at hl 1 rfl) ?_
  refine lv_iconst (v := 2) hx hb d_MO_die_5 (by decide) ?_
  refine mo_ast X h 0 24 rfl (by decide) (j := p) (v := 2) (by omega) (by decide) d_MO_die_6 (fun H locs h => ?_)
  refine lv_aload_n hx hb d_MO_die_7 rfl (lv_at hl 0 rfl) ?_
  refine lv_iload_n hx hb d_MO_die_8 rfl (lv_at hl 1 rfl) ?_
  refine lk_gov (lk_runV (As := [.int (nI p)]) (C := R_MO) X h (c_MO_leaveQueue l D τ ad (lk_st M 0 p 2) n ((lk_st_f (by decide)).trans hc) hn (nI p)) ⟨gc_MO_leaveQueue, gm_MO_94, gn_MO, gd_MO_leaveQueue, by decide, by decide⟩ gi_MO_leaveQueue gs_MO_leaveQueue ⟨0, 4, _, _, _, lk_w_get (by decide), rfl⟩ rfl hl.1 (Nat.le_of_ble_eq_true rfl) d_MO_die_9 ⟨Nat.zero_le _, Nat.zero_le _⟩) h hA (fun σ9 H locs hk9 h => ?_)
  rw [hk9] at h
  refine lv_aload_n hx hb d_MO_die_12 rfl (lv_at hl 0 rfl) ?_
  refine mo_get X rfl h 10 (by decide) rfl gf_MO_37 rfl d_MO_die_13 ?_
  refine lv_iload_n hx hb d_MO_die_16 rfl (lv_at hl 1 rfl) ?_
  refine lv_iconst (v := 0) hx hb d_MO_die_17 (by decide) ?_
  refine mo_ast X h 9 24 rfl (by decide) (j := p) (v := 0) (by omega) (by decide) d_MO_die_18 (fun H locs h => ?_)
  refine lv_iconst (v := nI 0) hx hb d_MO_die_19 (by decide) ?_
  refine lv_istore_n hx hb d_MO_die_20 rfl hl (by decide) rfl (fun ls hl => ?_)
  have hl : lv_has ls 4 [(3, .int (nI 0)), (0, .ref (ad 0)), (1, .int (nI p)), (2, .int (nI t))] := hl
  refine w_MO_die X hp ht 4 0 (by omega) _ _ ls h hl (fun H locs ls h hl => ?_)
  refine lv_aload_n hx hb d_MO_die_58 rfl (lv_at hl 1 rfl) ?_
  refine lv_iload_n hx hb d_MO_die_59 rfl (lv_at hl 2 rfl) ?_
  refine lk_gov (lk_runV (As := [.int (nI p)]) (C := R_MO) X h (c_MO_release l D τ ad _ p hp) ⟨gc_MO_release, gm_MO_98, gn_MO, gd_MO_release, by decide, by decide⟩ gi_MO_release gs_MO_release ⟨0, 4, _, _, _, lk_w_get (by decide), rfl⟩ rfl hl.1 (Nat.le_of_ble_eq_true rfl) d_MO_die_60 ⟨Nat.zero_le _, Nat.zero_le _⟩) h hA (fun σ60 H locs hk9 h => ?_)
  rw [hk9] at h
  exact lk_retv X h d_MO_die_63 (rfl)
end
section
theorem lk_nI_m1 {q : Nat} (h : q < 1000) : ¬ nI q = -1 := fun z => by
  have a := nI_toInt (n := q) (by omega)
  rw [z] at a
  have b : (-1 : Int32).toInt = -1 := by decide
  omega
def mm_split (M : lk_M) (t p q v : Nat) : lk_M :=
  lk_srch (lk_st (lk_st (lk_st (lk_st (lk_st (lk_st (lk_st (lk_ins (lk_ins (lk_mk M q (nI v) (M 7 (5 * p + 2)) (M 3 p) (M 4 p)) q 0 0 (M 7 (5 * p + 3)) (M 8 (5 * p + 3))) q 1 1 (M 7 (5 * p + 4)) (M 8 (5 * p + 4))) 5 p 3) 3 p (M 7 (5 * p + 2))) 4 p (nI q)) 12 t 4) 18 t (nI q)) 15 t (M 7 (5 * p + 2))) 16 t (nI (v + 1))) t (if M 19 (32 * t + (v + 1)) = -1 then M 24 0 else M 19 (32 * t + (v + 1)))
theorem lk_ins_o {σ : lk_M} {q k n i f : Nat} {a b : Int32} (hf : f = 7 ∨ f = 8) (h : i < 5 * q + k ∨ 5 * q + n < i) (hk : k ≤ n) : lk_ins σ q k n a b f i = σ f i := by
  unfold lk_ins
  rcases hf with rfl | rfl
  · simp only [lk_up_eq, lk_shR]; simp; rw [if_neg (by omega), if_neg (by omega)]
  · simp only [lk_up_eq, lk_shR]; simp; rw [if_neg (by omega), if_neg (by omega)]
theorem lk_ins_f {σ : lk_M} {q k n i f : Nat} {a b : Int32} (h5 : f ≠ 5) (h7 : f ≠ 7) (h8 : f ≠ 8) : lk_ins σ q k n a b f i = σ f i := by
  unfold lk_ins
  simp only [lk_up_eq]
  rw [if_neg h5, if_neg h8, if_neg h7]
theorem lk_ins_5 {σ : lk_M} {q k n i : Nat} {a b : Int32} : lk_ins σ q k n a b 5 i = if i = q then nI (n + 1) else σ 5 i := by
  unfold lk_ins
  simp only [lk_up_eq, upd]
  simp
theorem lk_mk_p {σ : lk_M} {q f i : Nat} {x lo hi r : Int32} (h : i ≠ q) : lk_mk σ q x lo hi r f i = σ f i := by
  unfold lk_mk
  simp only [lk_st_eq]
  simp [h]
theorem lk_mk_f {σ : lk_M} {q f i : Nat} {x lo hi r : Int32} (h : 6 < f) : lk_mk σ q x lo hi r f i = σ f i := by
  unfold lk_mk
  simp only [lk_st_eq]
  rw [if_neg (by omega), if_neg (by omega), if_neg (by omega), if_neg (by omega), if_neg (by omega), if_neg (by omega), if_neg (by omega)]
theorem lk_mk_5 {σ : lk_M} {q : Nat} {x lo hi r : Int32} : lk_mk σ q x lo hi r 5 q = nI 0 := by
  unfold lk_mk
  simp only [lk_st_eq]
  simp
  rfl
set_option maxRecDepth 20000 in
theorem c_MO_split (l : Launch) (D : va_G) (τ : Nat → ClassId) (ad : Nat → Nat) (M : lk_M) (t p q v : Nat) (ht : t < 4) (hp : p < 24) (hv : v ≤ 23) (hl1 : M 1 p = nI v) (hq : q < 24) (hf : lk_free M = q) (hpq : p ≠ q) : lk_Cv l D τ 25 ad (lk_me τ ad) y_MO_split b_MO_split 5 1 25 [.ref (ad 0), .int (nI t), .int (nI p)] M (fun M1 => M1 = mm_split M t p q v) := by
  refine lk_openv (by decide +kernel) (Nat.le_of_ble_eq_true rfl) ?_
  intro pg en s m args below meth cd ls A X h hA hl
  obtain ⟨hx, hb, -⟩ := id X
  have hl : lv_has ls 5 [(0, .ref (ad 0)), (1, .int (nI t)), (2, .int (nI p))] := hl
  refine lv_aload_n hx hb d_MO_split_0 rfl (lv_at hl 0 rfl) ?_
  refine lk_goi (lk_runV (As := []) (C := R_MO) X h (c_MO_freePage l D τ ad M) ⟨gc_MO_freePage, gm_MO_146, gn_MO, gd_MO_freePage, by decide, by decide⟩ gi_MO_freePage gs_MO_freePage ⟨0, 4, _, _, _, lk_w_get (by decide), rfl⟩ rfl hl.1 (Nat.le_of_ble_eq_true rfl) d_MO_split_1 ⟨Nat.zero_le _, Nat.zero_le _⟩) h hA (fun r1 σ1 H locs hk9 h => ?_)
  rw [hk9.2] at h
  rw [hk9.1, show lk_nn (lk_free M) 24 = nI q by rw [hf]; exact if_pos hq]
  refine lv_istore_n hx hb d_MO_split_4 rfl hl (by decide) rfl (fun ls hl => ?_)
  have hl : lv_has ls 5 [(3, .int (nI q)), (0, .ref (ad 0)), (1, .int (nI t)), (2, .int (nI p))] := hl
  refine lv_aload_n hx hb d_MO_split_5 rfl (lv_at hl 1 rfl) ?_
  refine lv_iload_n hx hb d_MO_split_6 rfl (lv_at hl 0 rfl) ?_
  refine lv_aload_n hx hb d_MO_split_7 rfl (lv_at hl 1 rfl) ?_
  refine mo_get X rfl h 2 (by decide) rfl gf_MO_13 rfl d_MO_split_8 ?_
  refine lv_iload_n hx hb d_MO_split_11 rfl (lv_at hl 3 rfl) ?_
  refine mo_ald X h 1 24 rfl (by decide) (j := p) (by omega) (by decide) d_MO_split_12 ?_
  refine lk_top (nI v) (hl1) ?_
  refine lv_aload_n hx hb d_MO_split_13 rfl (lv_at hl 1 rfl) ?_
  refine mo_get X rfl h 8 (by decide) rfl gf_MO_31 rfl d_MO_split_14 ?_
  refine lv_iconst (v := nI 5) hx hb d_MO_split_17 (by decide) ?_
  refine lv_iload_n hx hb d_MO_split_18 rfl (lv_at hl 3 rfl) ?_
  refine lk_imulN hx hb d_MO_split_19 ?_
  refine lv_iconst (v := nI 2) hx hb d_MO_split_20 (by decide) ?_
  refine lk_iaddN hx hb d_MO_split_21 ?_
  refine mo_ald X h 7 120 rfl (by decide) (j := 5 * p + 2) (by omega) (by decide) d_MO_split_22 ?_
  refine lv_aload_n hx hb d_MO_split_23 rfl (lv_at hl 1 rfl) ?_
  refine mo_get X rfl h 4 (by decide) rfl gf_MO_19 rfl d_MO_split_24 ?_
  refine lv_iload_n hx hb d_MO_split_27 rfl (lv_at hl 3 rfl) ?_
  refine mo_ald X h 3 24 rfl (by decide) (j := p) (by omega) (by decide) d_MO_split_28 ?_
  refine lv_aload_n hx hb d_MO_split_29 rfl (lv_at hl 1 rfl) ?_
  refine mo_get X rfl h 5 (by decide) rfl gf_MO_22 rfl d_MO_split_30 ?_
  refine lv_iload_n hx hb d_MO_split_33 rfl (lv_at hl 3 rfl) ?_
  refine mo_ald X h 4 24 rfl (by decide) (j := p) (by omega) (by decide) d_MO_split_34 ?_
  refine lk_gov (lk_runV (As := [.int (nI q), .int (nI v), .int (M 7 (5 * p + 2)), .int (M 3 p), .int (M 4 p)]) (C := R_MO) X h (c_MO_make l D τ ad M q hq _ _ _ _) ⟨gc_MO_make, gm_MO_150, gn_MO, gd_MO_make, by decide, by decide⟩ gi_MO_make gs_MO_make ⟨0, 4, _, _, _, lk_w_get (by decide), rfl⟩ rfl hl.1 (Nat.le_of_ble_eq_true rfl) d_MO_split_35 ⟨Nat.zero_le _, Nat.zero_le _⟩) h hA (fun σ35 H locs hk9 h => ?_)
  rw [hk9] at h
  refine lv_iconst (v := nI 3) hx hb d_MO_split_38 (by decide) ?_
  refine lv_istore hx hb d_MO_split_39 hl (by decide) rfl (fun ls hl => ?_)
  have hl : lv_has ls 5 [(4, .int (nI 3)), (3, .int (nI q)), (0, .ref (ad 0)), (1, .int (nI t)), (2, .int (nI p))] := hl
  refine lv_iload hx hb d_MO_split_41 (lv_at hl 0 rfl) ?_
  refine lv_iconst (v := nI 5) hx hb d_MO_split_43 (by decide) ?_
  refine lv_icmp_ge (tgt := 80) hx hb d_MO_split_44 (by decide) (fun z => absurd z (by decide)) (fun _ => ?_)
  refine lv_aload_n hx hb d_MO_split_47 rfl (lv_at hl 2 rfl) ?_
  refine lv_iload_n hx hb d_MO_split_48 rfl (lv_at hl 1 rfl) ?_
  refine lv_aload_n hx hb d_MO_split_49 rfl (lv_at hl 2 rfl) ?_
  refine mo_get X rfl h 8 (by decide) rfl gf_MO_31 rfl d_MO_split_50 ?_
  refine lv_iconst (v := nI 5) hx hb d_MO_split_53 (by decide) ?_
  refine lv_iload_n hx hb d_MO_split_54 rfl (lv_at hl 4 rfl) ?_
  refine lk_imulN hx hb d_MO_split_55 ?_
  refine lv_iload hx hb d_MO_split_56 (lv_at hl 0 rfl) ?_
  refine lk_iaddN hx hb d_MO_split_58 ?_
  refine mo_ald X h 7 120 rfl (by decide) (j := 5 * p + 3) (by omega) (by decide) d_MO_split_59 ?_
  refine lk_top (M 7 (5 * p + 3)) (lk_mk_f (by decide)) ?_
  refine lv_aload_n hx hb d_MO_split_60 rfl (lv_at hl 2 rfl) ?_
  refine mo_get X rfl h 9 (by decide) rfl gf_MO_34 rfl d_MO_split_61 ?_
  refine lv_iconst (v := nI 5) hx hb d_MO_split_64 (by decide) ?_
  refine lv_iload_n hx hb d_MO_split_65 rfl (lv_at hl 4 rfl) ?_
  refine lk_imulN hx hb d_MO_split_66 ?_
  refine lv_iload hx hb d_MO_split_67 (lv_at hl 0 rfl) ?_
  refine lk_iaddN hx hb d_MO_split_69 ?_
  refine mo_ald X h 8 120 rfl (by decide) (j := 5 * p + 3) (by omega) (by decide) d_MO_split_70 ?_
  refine lk_top (M 8 (5 * p + 3)) (lk_mk_f (by decide)) ?_
  refine lk_gov (lk_runV (As := [.int (nI q), .int (M 7 (5 * p + 3)), .int (M 8 (5 * p + 3))]) (C := R_MO) X h (c_MO_append l D τ ad _ q 0 hq lk_mk_5 (by omega) _ _) ⟨gc_MO_append, gm_MO_154, gn_MO, gd_MO_append, by decide, by decide⟩ gi_MO_append gs_MO_append ⟨0, 4, _, _, _, lk_w_get (by decide), rfl⟩ rfl hl.1 (Nat.le_of_ble_eq_true rfl) d_MO_split_71 ⟨Nat.zero_le _, Nat.zero_le _⟩) h hA (fun σ71 H locs hk9 h => ?_)
  rw [hk9] at h
  refine lv_iinc (k := 0) (v := nI 4) hx hb d_MO_split_74 hl rfl (by decide) (by decide) rfl (fun ls hl => ?_)
  have hl : lv_has ls 5 [(4, .int (nI 4)), (3, .int (nI q)), (0, .ref (ad 0)), (1, .int (nI t)), (2, .int (nI p))] := hl
  refine lv_goto (tgt := 41) hx hb d_MO_split_77 (by decide) ?_
  refine lv_iload hx hb d_MO_split_41 (lv_at hl 0 rfl) ?_
  refine lv_iconst (v := nI 5) hx hb d_MO_split_43 (by decide) ?_
  refine lv_icmp_ge (tgt := 80) hx hb d_MO_split_44 (by decide) (fun z => absurd z (by decide)) (fun _ => ?_)
  refine lv_aload_n hx hb d_MO_split_47 rfl (lv_at hl 2 rfl) ?_
  refine lv_iload_n hx hb d_MO_split_48 rfl (lv_at hl 1 rfl) ?_
  refine lv_aload_n hx hb d_MO_split_49 rfl (lv_at hl 2 rfl) ?_
  refine mo_get X rfl h 8 (by decide) rfl gf_MO_31 rfl d_MO_split_50 ?_
  refine lv_iconst (v := nI 5) hx hb d_MO_split_53 (by decide) ?_
  refine lv_iload_n hx hb d_MO_split_54 rfl (lv_at hl 4 rfl) ?_
  refine lk_imulN hx hb d_MO_split_55 ?_
  refine lv_iload hx hb d_MO_split_56 (lv_at hl 0 rfl) ?_
  refine lk_iaddN hx hb d_MO_split_58 ?_
  refine mo_ald X h 7 120 rfl (by decide) (j := 5 * p + 4) (by omega) (by decide) d_MO_split_59 ?_
  refine lk_top (M 7 (5 * p + 4)) ((lk_ins_o (by decide) (by omega) (by omega)).trans (lk_mk_f (by decide))) ?_
  refine lv_aload_n hx hb d_MO_split_60 rfl (lv_at hl 2 rfl) ?_
  refine mo_get X rfl h 9 (by decide) rfl gf_MO_34 rfl d_MO_split_61 ?_
  refine lv_iconst (v := nI 5) hx hb d_MO_split_64 (by decide) ?_
  refine lv_iload_n hx hb d_MO_split_65 rfl (lv_at hl 4 rfl) ?_
  refine lk_imulN hx hb d_MO_split_66 ?_
  refine lv_iload hx hb d_MO_split_67 (lv_at hl 0 rfl) ?_
  refine lk_iaddN hx hb d_MO_split_69 ?_
  refine mo_ald X h 8 120 rfl (by decide) (j := 5 * p + 4) (by omega) (by decide) d_MO_split_70 ?_
  refine lk_top (M 8 (5 * p + 4)) ((lk_ins_o (by decide) (by omega) (by omega)).trans (lk_mk_f (by decide))) ?_
  refine lk_gov (lk_runV (As := [.int (nI q), .int (M 7 (5 * p + 4)), .int (M 8 (5 * p + 4))]) (C := R_MO) X h (c_MO_append l D τ ad _ q 1 hq (lk_ins_5.trans (if_pos rfl)) (by omega) _ _) ⟨gc_MO_append, gm_MO_154, gn_MO, gd_MO_append, by decide, by decide⟩ gi_MO_append gs_MO_append ⟨0, 4, _, _, _, lk_w_get (by decide), rfl⟩ rfl hl.1 (Nat.le_of_ble_eq_true rfl) d_MO_split_71 ⟨Nat.zero_le _, Nat.zero_le _⟩) h hA (fun σ71 H locs hk9 h => ?_)
  rw [hk9] at h
  refine lv_iinc (k := 0) (v := nI 5) hx hb d_MO_split_74 hl rfl (by decide) (by decide) rfl (fun ls hl => ?_)
  have hl : lv_has ls 5 [(4, .int (nI 5)), (3, .int (nI q)), (0, .ref (ad 0)), (1, .int (nI t)), (2, .int (nI p))] := hl
  refine lv_goto (tgt := 41) hx hb d_MO_split_77 (by decide) ?_
  refine lv_iload hx hb d_MO_split_41 (lv_at hl 0 rfl) ?_
  refine lv_iconst (v := nI 5) hx hb d_MO_split_43 (by decide) ?_
  refine lv_icmp_ge (tgt := 80) hx hb d_MO_split_44 (by decide) (fun _ => ?_) (fun z => absurd z (by decide))
  refine lv_aload_n hx hb d_MO_split_80 rfl (lv_at hl 2 rfl) ?_
  refine mo_get X rfl h 6 (by decide) rfl gf_MO_25 rfl d_MO_split_81 ?_
  refine lv_iload_n hx hb d_MO_split_84 rfl (lv_at hl 4 rfl) ?_
  refine lv_iconst (v := 3) hx hb d_MO_split_85 (by decide) ?_
  refine mo_ast X h 5 24 rfl (by decide) (j := p) (v := 3) (by omega) (by decide) d_MO_split_86 (fun H locs h => ?_)
  refine lv_aload_n hx hb d_MO_split_87 rfl (lv_at hl 2 rfl) ?_
  refine mo_get X rfl h 4 (by decide) rfl gf_MO_19 rfl d_MO_split_88 ?_
  refine lv_iload_n hx hb d_MO_split_91 rfl (lv_at hl 4 rfl) ?_
  refine lv_aload_n hx hb d_MO_split_92 rfl (lv_at hl 2 rfl) ?_
  refine mo_get X rfl h 8 (by decide) rfl gf_MO_31 rfl d_MO_split_93 ?_
  refine lv_iconst (v := nI 5) hx hb d_MO_split_96 (by decide) ?_
  refine lv_iload_n hx hb d_MO_split_97 rfl (lv_at hl 4 rfl) ?_
  refine lk_imulN hx hb d_MO_split_98 ?_
  refine lv_iconst (v := nI 2) hx hb d_MO_split_99 (by decide) ?_
  refine lk_iaddN hx hb d_MO_split_100 ?_
  refine mo_ald X h 7 120 rfl (by decide) (j := 5 * p + 2) (by omega) (by decide) d_MO_split_101 ?_
  refine lk_top (M 7 (5 * p + 2)) ((lk_st_f (by decide)).trans ((lk_ins_o (by decide) (by omega) (by omega)).trans ((lk_ins_o (by decide) (by omega) (by omega)).trans (lk_mk_f (by decide))))) ?_
  refine mo_ast X h 3 24 rfl (by decide) (j := p) (v := M 7 (5 * p + 2)) (by omega) (by decide) d_MO_split_102 (fun H locs h => ?_)
  refine lv_aload_n hx hb d_MO_split_103 rfl (lv_at hl 2 rfl) ?_
  refine mo_get X rfl h 5 (by decide) rfl gf_MO_22 rfl d_MO_split_104 ?_
  refine lv_iload_n hx hb d_MO_split_107 rfl (lv_at hl 4 rfl) ?_
  refine lv_iload_n hx hb d_MO_split_108 rfl (lv_at hl 1 rfl) ?_
  refine mo_ast X h 4 24 rfl (by decide) (j := p) (v := nI q) (by omega) (by decide) d_MO_split_109 (fun H locs h => ?_)
  refine lv_aload_n hx hb d_MO_split_110 rfl (lv_at hl 2 rfl) ?_
  refine mo_get X rfl h 15 (by decide) rfl gf_MO_47 rfl d_MO_split_111 ?_
  refine lv_iload_n hx hb d_MO_split_114 rfl (lv_at hl 3 rfl) ?_
  refine lv_iconst (v := 4) hx hb d_MO_split_115 (by decide) ?_
  refine mo_ast X h 12 4 rfl (by decide) (j := t) (v := 4) (by omega) (by decide) d_MO_split_116 (fun H locs h => ?_)
  refine lv_aload_n hx hb d_MO_split_117 rfl (lv_at hl 2 rfl) ?_
  refine mo_get X rfl h 21 (by decide) rfl gf_MO_65 rfl d_MO_split_118 ?_
  refine lv_iload_n hx hb d_MO_split_121 rfl (lv_at hl 3 rfl) ?_
  refine lv_iload_n hx hb d_MO_split_122 rfl (lv_at hl 1 rfl) ?_
  refine mo_ast X h 18 4 rfl (by decide) (j := t) (v := nI q) (by omega) (by decide) d_MO_split_123 (fun H locs h => ?_)
  refine lv_aload_n hx hb d_MO_split_124 rfl (lv_at hl 2 rfl) ?_
  refine mo_get X rfl h 18 (by decide) rfl gf_MO_56 rfl d_MO_split_125 ?_
  refine lv_iload_n hx hb d_MO_split_128 rfl (lv_at hl 3 rfl) ?_
  refine lv_aload_n hx hb d_MO_split_129 rfl (lv_at hl 2 rfl) ?_
  refine mo_get X rfl h 4 (by decide) rfl gf_MO_19 rfl d_MO_split_130 ?_
  refine lv_iload_n hx hb d_MO_split_133 rfl (lv_at hl 4 rfl) ?_
  refine mo_ald X h 3 24 rfl (by decide) (j := p) (by omega) (by decide) d_MO_split_134 ?_
  refine lk_top (M 7 (5 * p + 2)) ((lk_st_f (by decide)).trans ((lk_st_f (by decide)).trans ((lk_st_f (by decide)).trans (lk_st_s)))) ?_
  refine mo_ast X h 15 4 rfl (by decide) (j := t) (v := M 7 (5 * p + 2)) (by omega) (by decide) d_MO_split_135 (fun H locs h => ?_)
  refine lv_aload_n hx hb d_MO_split_136 rfl (lv_at hl 2 rfl) ?_
  refine mo_get X rfl h 19 (by decide) rfl gf_MO_59 rfl d_MO_split_137 ?_
  refine lv_iload_n hx hb d_MO_split_140 rfl (lv_at hl 3 rfl) ?_
  refine lv_aload_n hx hb d_MO_split_141 rfl (lv_at hl 2 rfl) ?_
  refine mo_get X rfl h 2 (by decide) rfl gf_MO_13 rfl d_MO_split_142 ?_
  refine lv_iload_n hx hb d_MO_split_145 rfl (lv_at hl 4 rfl) ?_
  refine mo_ald X h 1 24 rfl (by decide) (j := p) (by omega) (by decide) d_MO_split_146 ?_
  refine lk_top (nI v) ((lk_st_f (by decide)).trans ((lk_st_f (by decide)).trans ((lk_st_f (by decide)).trans ((lk_st_f (by decide)).trans ((lk_st_f (by decide)).trans ((lk_st_f (by decide)).trans ((lk_ins_f (by decide) (by decide) (by decide)).trans ((lk_ins_f (by decide) (by decide) (by decide)).trans ((lk_mk_p hpq).trans hl1))))))))) ?_
  refine lv_iconst (v := nI 1) hx hb d_MO_split_147 (by decide) ?_
  refine lk_iaddN hx hb d_MO_split_148 ?_
  refine mo_ast X h 16 4 rfl (by decide) (j := t) (v := nI (v + 1)) (by omega) (by decide) d_MO_split_149 (fun H locs h => ?_)
  refine lv_aload_n hx hb d_MO_split_150 rfl (lv_at hl 2 rfl) ?_
  refine mo_get X rfl h 22 (by decide) rfl gf_MO_68 rfl d_MO_split_151 ?_
  refine lv_bipush (v := nI 32) hx hb d_MO_split_154 (by decide) ?_
  refine lv_iload_n hx hb d_MO_split_156 rfl (lv_at hl 3 rfl) ?_
  refine lk_imulN hx hb d_MO_split_157 ?_
  refine lv_aload_n hx hb d_MO_split_158 rfl (lv_at hl 2 rfl) ?_
  refine mo_get X rfl h 19 (by decide) rfl gf_MO_59 rfl d_MO_split_159 ?_
  refine lv_iload_n hx hb d_MO_split_162 rfl (lv_at hl 3 rfl) ?_
  refine mo_ald X h 16 4 rfl (by decide) (j := t) (by omega) (by decide) d_MO_split_163 ?_
  refine lk_top (nI (v + 1)) (lk_st_s) ?_
  refine lk_iaddN hx hb d_MO_split_164 ?_
  refine mo_ald X h 19 128 rfl (by decide) (j := 32 * t + (v + 1)) (by omega) (by decide) d_MO_split_165 ?_
  refine lk_top (M 19 (32 * t + (v + 1))) ((lk_st_f (by decide)).trans ((lk_st_f (by decide)).trans ((lk_st_f (by decide)).trans ((lk_st_f (by decide)).trans ((lk_st_f (by decide)).trans ((lk_st_f (by decide)).trans ((lk_st_f (by decide)).trans ((lk_ins_f (by decide) (by decide) (by decide)).trans ((lk_ins_f (by decide) (by decide) (by decide)).trans (lk_mk_f (by decide))))))))))) ?_
  refine lv_istore hx hb d_MO_split_166 hl (by decide) rfl (fun ls hl => ?_)
  have hl : lv_has ls 5 [(4, .int (M 19 (32 * t + (v + 1)))), (3, .int (nI q)), (0, .ref (ad 0)), (1, .int (nI t)), (2, .int (nI p))] := hl
  refine lv_aload_n hx hb d_MO_split_168 rfl (lv_at hl 2 rfl) ?_
  refine lv_iload_n hx hb d_MO_split_169 rfl (lv_at hl 3 rfl) ?_
  refine lv_iload hx hb d_MO_split_170 (lv_at hl 0 rfl) ?_
  refine lv_iconst (v := (-1)) hx hb d_MO_split_172 (by decide) ?_
  refine lv_icmp_ne (tgt := 183) hx hb d_MO_split_173 (by decide) (fun h1 => ?_) (fun h1 => ?_)
  · refine lv_iload hx hb d_MO_split_183 (lv_at hl 0 rfl) ?_
    refine lk_gov (lk_runV (As := [.int (nI t), .int (M 19 (32 * t + (v + 1)))]) (C := R_MO) X h (c_MO_search l D τ ad _ t ht _) ⟨gc_MO_search, gm_MO_111, gn_MO, gd_MO_search, by decide, by decide⟩ gi_MO_search gs_MO_search ⟨0, 4, _, _, _, lk_w_get (by decide), rfl⟩ rfl hl.1 (Nat.le_of_ble_eq_true rfl) d_MO_split_185 ⟨Nat.zero_le _, Nat.zero_le _⟩) h hA (fun σ185 H locs hk9 h => ?_)
    rw [hk9] at h
    exact lk_retv X h d_MO_split_188 (by unfold mm_split; rw [if_neg h1])
  · refine lv_aload_n hx hb d_MO_split_176 rfl (lv_at hl 2 rfl) ?_
    refine mo_get X rfl h 11 (by decide) rfl gf_MO_108 rfl d_MO_split_177 ?_
    refine lk_top (M 24 0) ((lk_st_f (by decide)).trans ((lk_st_f (by decide)).trans ((lk_st_f (by decide)).trans ((lk_st_f (by decide)).trans ((lk_st_f (by decide)).trans ((lk_st_f (by decide)).trans ((lk_st_f (by decide)).trans ((lk_ins_f (by decide) (by decide) (by decide)).trans ((lk_ins_f (by decide) (by decide) (by decide)).trans (lk_mk_f (by decide))))))))))) ?_
    refine lv_goto (tgt := 185) hx hb d_MO_split_180 (by decide) ?_
    refine lk_gov (lk_runV (As := [.int (nI t), .int (M 24 0)]) (C := R_MO) X h (c_MO_search l D τ ad _ t ht _) ⟨gc_MO_search, gm_MO_111, gn_MO, gd_MO_search, by decide, by decide⟩ gi_MO_search gs_MO_search ⟨0, 4, _, _, _, lk_w_get (by decide), rfl⟩ rfl hl.1 (Nat.le_of_ble_eq_true rfl) d_MO_split_185 ⟨Nat.zero_le _, Nat.zero_le _⟩) h hA (fun σ185 H locs hk9 h => ?_)
    rw [hk9] at h
    exact lk_retv X h d_MO_split_188 (by unfold mm_split; rw [if_pos h1])
def mm_rises (σ : lk_M) (t rt : Nat) : Int32 × lk_M :=
  if σ 12 t = 3 then (2, mm_fin σ t 0) else if σ 1 rt < σ 16 t then (if lk_free σ < 24 then (0, lk_st (lk_st (lk_ins (lk_mk σ (lk_free σ) (σ 1 rt + 1) (-1) 999 (-1)) (lk_free σ) 0 0 999 (nI rt)) 24 0 (nI (lk_free σ))) 14 t (nI (lk_free σ))) else (2, mm_fin σ t (-1))) else (0, lk_rst σ t)
set_option maxRecDepth 20000 in
theorem c_MO_rises (l : Launch) (D : va_G) (τ : Nat → ClassId) (ad : Nat → Nat) (M : lk_M) (t rt : Nat) (ht : t < 4) (hrt : rt < 24) (hr0 : M 24 0 = nI rt) : lk_Ci l D τ 25 ad (lk_me τ ad) y_MO_rises b_MO_rises 3 (.int) 2 44 [.ref (ad 0), .int (nI t)] M (fun r M1 => r = (mm_rises M t rt).1 ∧ M1 = (mm_rises M t rt).2) := by
  refine lk_openi (by decide +kernel) (Nat.le_of_ble_eq_true rfl) ?_
  intro pg en s m args below meth cd ls A X h hA hl
  obtain ⟨hx, hb, -⟩ := id X
  have hl : lv_has ls 3 [(0, .ref (ad 0)), (1, .int (nI t))] := hl
  refine lv_aload_n hx hb d_MO_rises_0 rfl (lv_at hl 0 rfl) ?_
  refine mo_get X rfl h 15 (by decide) rfl gf_MO_47 rfl d_MO_rises_1 ?_
  refine lv_iload_n hx hb d_MO_rises_4 rfl (lv_at hl 1 rfl) ?_
  refine mo_ald X h 12 4 rfl (by decide) (j := t) (by omega) (by decide) d_MO_rises_5 ?_
  refine lv_iconst (v := 3) hx hb d_MO_rises_6 (by decide) ?_
  refine lv_icmp_ne (tgt := 17) hx hb d_MO_rises_7 (by decide) (fun h1 => ?_) (fun h1 => ?_)
  · refine lv_aload_n hx hb d_MO_rises_17 rfl (lv_at hl 0 rfl) ?_
    refine mo_get X rfl h 2 (by decide) rfl gf_MO_13 rfl d_MO_rises_18 ?_
    refine lv_aload_n hx hb d_MO_rises_21 rfl (lv_at hl 0 rfl) ?_
    refine mo_get X rfl h 11 (by decide) rfl gf_MO_108 rfl d_MO_rises_22 ?_
    refine lk_top (nI rt) (hr0) ?_
    refine mo_ald X h 1 24 rfl (by decide) (j := rt) (by omega) (by decide) d_MO_rises_25 ?_
    refine lv_aload_n hx hb d_MO_rises_26 rfl (lv_at hl 0 rfl) ?_
    refine mo_get X rfl h 19 (by decide) rfl gf_MO_59 rfl d_MO_rises_27 ?_
    refine lv_iload_n hx hb d_MO_rises_30 rfl (lv_at hl 1 rfl) ?_
    refine mo_ald X h 16 4 rfl (by decide) (j := t) (by omega) (by decide) d_MO_rises_31 ?_
    refine lv_icmp_lt (tgt := 41) hx hb d_MO_rises_32 (by decide) (fun h2 => ?_) (fun h2 => ?_)
    · refine lv_aload_n hx hb d_MO_rises_41 rfl (lv_at hl 0 rfl) ?_
      refine lk_goi (lk_runV (As := []) (C := R_MO) X h (c_MO_freePage l D τ ad M) ⟨gc_MO_freePage, gm_MO_146, gn_MO, gd_MO_freePage, by decide, by decide⟩ gi_MO_freePage gs_MO_freePage ⟨0, 4, _, _, _, lk_w_get (by decide), rfl⟩ rfl hl.1 (Nat.le_of_ble_eq_true rfl) d_MO_rises_42 ⟨Nat.zero_le _, Nat.zero_le _⟩) h hA (fun r42 σ42 H locs hk9 h => ?_)
      rw [hk9.2] at h
      rw [hk9.1]
      by_cases hf : lk_free M < 24
      · rw [show lk_nn (lk_free M) 24 = nI (lk_free M) from if_pos hf]
        refine lv_istore_n hx hb d_MO_rises_45 rfl hl (by decide) rfl (fun ls hl => ?_)
        have hl : lv_has ls 3 [(2, .int (nI (lk_free M))), (0, .ref (ad 0)), (1, .int (nI t))] := hl
        refine lv_iload_n hx hb d_MO_rises_46 rfl (lv_at hl 0 rfl) ?_
        refine lv_iconst (v := (-1)) hx hb d_MO_rises_47 (by decide) ?_
        refine lv_icmp_ne (tgt := 58) hx hb d_MO_rises_48 (by decide) (fun h3 => ?_) (fun h3 => ?_)
        · refine lv_aload_n hx hb d_MO_rises_58 rfl (lv_at hl 1 rfl) ?_
          refine lv_iload_n hx hb d_MO_rises_59 rfl (lv_at hl 0 rfl) ?_
          refine lv_aload_n hx hb d_MO_rises_60 rfl (lv_at hl 1 rfl) ?_
          refine mo_get X rfl h 2 (by decide) rfl gf_MO_13 rfl d_MO_rises_61 ?_
          refine lv_aload_n hx hb d_MO_rises_64 rfl (lv_at hl 1 rfl) ?_
          refine mo_get X rfl h 11 (by decide) rfl gf_MO_108 rfl d_MO_rises_65 ?_
          refine lk_top (nI rt) (hr0) ?_
          refine mo_ald X h 1 24 rfl (by decide) (j := rt) (by omega) (by decide) d_MO_rises_68 ?_
          refine lv_iconst (v := 1) hx hb d_MO_rises_69 (by decide) ?_
          refine lv_iadd hx hb d_MO_rises_70 ?_
          refine lv_iconst (v := (-1)) hx hb d_MO_rises_71 (by decide) ?_
          refine lv_sipush (v := 999) hx hb d_MO_rises_72 (by decide) ?_
          refine lv_iconst (v := (-1)) hx hb d_MO_rises_75 (by decide) ?_
          refine lk_gov (lk_runV (As := [.int (nI (lk_free M)), .int ((M 1 rt) + 1), .int (-1), .int 999, .int (-1)]) (C := R_MO) X h (c_MO_make l D τ ad M (lk_free M) hf _ _ _ _) ⟨gc_MO_make, gm_MO_150, gn_MO, gd_MO_make, by decide, by decide⟩ gi_MO_make gs_MO_make ⟨0, 4, _, _, _, lk_w_get (by decide), rfl⟩ rfl hl.1 (Nat.le_of_ble_eq_true rfl) d_MO_rises_76 ⟨Nat.zero_le _, Nat.zero_le _⟩) h hA (fun σ76 H locs hk9 h => ?_)
          rw [hk9] at h
          refine lv_aload_n hx hb d_MO_rises_79 rfl (lv_at hl 1 rfl) ?_
          refine lv_iload_n hx hb d_MO_rises_80 rfl (lv_at hl 0 rfl) ?_
          refine lv_sipush (v := 999) hx hb d_MO_rises_81 (by decide) ?_
          refine lv_aload_n hx hb d_MO_rises_84 rfl (lv_at hl 1 rfl) ?_
          refine mo_get X rfl h 11 (by decide) rfl gf_MO_108 rfl d_MO_rises_85 ?_
          refine lk_top (nI rt) ((lk_mk_f (by decide)).trans hr0) ?_
          refine lk_gov (lk_runV (As := [.int (nI (lk_free M)), .int 999, .int (nI rt)]) (C := R_MO) X h (c_MO_append l D τ ad _ (lk_free M) 0 hf lk_mk_5 (by omega) _ _) ⟨gc_MO_append, gm_MO_154, gn_MO, gd_MO_append, by decide, by decide⟩ gi_MO_append gs_MO_append ⟨0, 4, _, _, _, lk_w_get (by decide), rfl⟩ rfl hl.1 (Nat.le_of_ble_eq_true rfl) d_MO_rises_88 ⟨Nat.zero_le _, Nat.zero_le _⟩) h hA (fun σ88 H locs hk9 h => ?_)
          rw [hk9] at h
          refine lv_aload_n hx hb d_MO_rises_91 rfl (lv_at hl 1 rfl) ?_
          refine lv_iload_n hx hb d_MO_rises_92 rfl (lv_at hl 0 rfl) ?_
          refine mo_put X rfl h 11 0 (by decide) gf_MO_108 d_MO_rises_93 (fun H locs h => ?_)
          refine lv_aload_n hx hb d_MO_rises_96 rfl (lv_at hl 1 rfl) ?_
          refine mo_get X rfl h 17 (by decide) rfl gf_MO_53 rfl d_MO_rises_97 ?_
          refine lv_iload_n hx hb d_MO_rises_100 rfl (lv_at hl 2 rfl) ?_
          refine lv_iload_n hx hb d_MO_rises_101 rfl (lv_at hl 0 rfl) ?_
          refine mo_ast X h 14 4 rfl (by decide) (j := t) (v := nI (lk_free M)) (by omega) (by decide) d_MO_rises_102 (fun H locs h => ?_)
          refine lv_iconst (v := 0) hx hb d_MO_rises_103 (by decide) ?_
          exact lk_reti X h d_MO_rises_104 (by rw [mm_rises, if_neg h1, if_pos h2, if_pos hf]; exact ⟨rfl, rfl⟩)
        · exact absurd h3 (lk_nI_m1 (by omega))
      · rw [show lk_nn (lk_free M) 24 = -1 from if_neg hf]
        refine lv_istore_n hx hb d_MO_rises_45 rfl hl (by decide) rfl (fun ls hl => ?_)
        have hl : lv_has ls 3 [(2, .int (-1)), (0, .ref (ad 0)), (1, .int (nI t))] := hl
        refine lv_iload_n hx hb d_MO_rises_46 rfl (lv_at hl 0 rfl) ?_
        refine lv_iconst (v := (-1)) hx hb d_MO_rises_47 (by decide) ?_
        refine lv_icmp_ne (tgt := 58) hx hb d_MO_rises_48 (by decide) (fun z => absurd z (by decide)) (fun _ => ?_)
        refine lv_aload_n hx hb d_MO_rises_51 rfl (lv_at hl 1 rfl) ?_
        refine lv_iload_n hx hb d_MO_rises_52 rfl (lv_at hl 2 rfl) ?_
        refine lv_iconst (v := (-1)) hx hb d_MO_rises_53 (by decide) ?_
        refine lk_goi (lk_runV (As := [.int (nI t), .int (-1)]) (C := R_MO) X h (c_MO_finish l D τ ad M t ht (-1)) ⟨gc_MO_finish, gm_MO_126, gn_MO, gd_MO_finish, by decide, by decide⟩ gi_MO_finish gs_MO_finish ⟨0, 4, _, _, _, lk_w_get (by decide), rfl⟩ rfl hl.1 (Nat.le_of_ble_eq_true rfl) d_MO_rises_54 ⟨Nat.zero_le _, Nat.zero_le _⟩) h hA (fun r54 σ54 H locs hk9 h => ?_)
        rw [hk9.2] at h
        rw [hk9.1]
        exact lk_reti X h d_MO_rises_57 (by rw [mm_rises, if_neg h1, if_pos h2, if_neg hf]; exact ⟨rfl, rfl⟩)
    · refine lv_aload_n hx hb d_MO_rises_35 rfl (lv_at hl 0 rfl) ?_
      refine lv_iload_n hx hb d_MO_rises_36 rfl (lv_at hl 1 rfl) ?_
      refine lk_goi (lk_runV (As := [.int (nI t)]) (C := R_MO) X h (c_MO_restart l D τ ad M t ht) ⟨gc_MO_restart, gm_MO_132, gn_MO, gd_MO_restart, by decide, by decide⟩ gi_MO_restart gs_MO_restart ⟨0, 4, _, _, _, lk_w_get (by decide), rfl⟩ rfl hl.1 (Nat.le_of_ble_eq_true rfl) d_MO_rises_37 ⟨Nat.zero_le _, Nat.zero_le _⟩) h hA (fun r37 σ37 H locs hk9 h => ?_)
      rw [hk9.2] at h
      rw [hk9.1]
      exact lk_reti X h d_MO_rises_40 (by rw [mm_rises, if_neg h1, if_neg h2]; exact ⟨rfl, rfl⟩)
  · refine lv_aload_n hx hb d_MO_rises_10 rfl (lv_at hl 0 rfl) ?_
    refine lv_iload_n hx hb d_MO_rises_11 rfl (lv_at hl 1 rfl) ?_
    refine lv_iconst (v := 0) hx hb d_MO_rises_12 (by decide) ?_
    refine lk_goi (lk_runV (As := [.int (nI t), .int 0]) (C := R_MO) X h (c_MO_finish l D τ ad M t ht 0) ⟨gc_MO_finish, gm_MO_126, gn_MO, gd_MO_finish, by decide, by decide⟩ gi_MO_finish gs_MO_finish ⟨0, 4, _, _, _, lk_w_get (by decide), rfl⟩ rfl hl.1 (Nat.le_of_ble_eq_true rfl) d_MO_rises_13 ⟨Nat.zero_le _, Nat.zero_le _⟩) h hA (fun r13 σ13 H locs hk9 h => ?_)
    rw [hk9.2] at h
    rw [hk9.1]
    exact lk_reti X h d_MO_rises_16 (by rw [mm_rises, if_pos h1]; exact ⟨rfl, rfl⟩)
noncomputable def mm_puts (M : lk_M) (t p n v : Nat) : Int32 × lk_M :=
  @ite _ (lk_hk M p n (M 15 t)) (Classical.propDecidable _) (2, mm_fin (lk_st M 8 (5 * p + lk_at M p n (M 15 t)) (M 17 t)) t (M 8 (5 * p + lk_at M p n (M 15 t))))
    (if n < 4 then (2, mm_fin (lk_ins M p (lk_at M p n (M 15 t)) n (M 15 t) (M 17 t)) t (-1)) else if lk_free M < 24 then (3, mm_split (lk_ins M p (lk_at M p n (M 15 t)) n (M 15 t) (M 17 t)) t p (lk_free M) v) else (2, mm_fin M t (-2)))
theorem lk_ins_free {σ : lk_M} {q k n : Nat} {a b : Int32} : lk_free (lk_ins σ q k n a b) = lk_free σ := by
  unfold lk_free
  have : lk_ins σ q k n a b 0 = σ 0 := by funext i; exact lk_ins_f (by decide) (by decide) (by decide)
  rw [this]
theorem lk_free_ne {σ : lk_M} {p : Nat} (hp : σ 0 p = 1) (hf : lk_free σ < 24) : p ≠ lk_free σ := fun e => by
  have h := lk_ff_at (σ 0) 0 24 0 hf
  have e2 : σ 0 p = 0 := by rw [e]; exact h
  rw [hp] at e2
  exact absurd e2 (by decide)
set_option maxRecDepth 20000 in
theorem c_MO_puts (l : Launch) (D : va_G) (τ : Nat → ClassId) (ad : Nat → Nat) (M : lk_M) (t p n v : Nat) (ht : t < 4) (hp : p < 24) (hc : M 5 p = nI n) (hn : n ≤ 4) (hkd : M 0 p = 1) (hv : v ≤ 23) (hl1 : M 1 p = nI v) : lk_Ci l D τ 25 ad (lk_me τ ad) y_MO_puts b_MO_puts 5 (.int) 2 49 [.ref (ad 0), .int (nI t), .int (nI p)] M (fun r M1 => r = (mm_puts M t p n v).1 ∧ M1 = (mm_puts M t p n v).2) := by
  refine lk_openi (by decide +kernel) (Nat.le_of_ble_eq_true rfl) ?_
  intro pg en s m args below meth cd ls A X h hA hl
  obtain ⟨hx, hb, -⟩ := id X
  have hl : lv_has ls 5 [(0, .ref (ad 0)), (1, .int (nI t)), (2, .int (nI p))] := hl
  have hle := lk_at_le M p n (M 15 t)
  refine lv_aload_n hx hb d_MO_puts_0 rfl (lv_at hl 0 rfl) ?_
  refine lv_iload_n hx hb d_MO_puts_1 rfl (lv_at hl 2 rfl) ?_
  refine lv_aload_n hx hb d_MO_puts_2 rfl (lv_at hl 0 rfl) ?_
  refine mo_get X rfl h 18 (by decide) rfl gf_MO_56 rfl d_MO_puts_3 ?_
  refine lv_iload_n hx hb d_MO_puts_6 rfl (lv_at hl 1 rfl) ?_
  refine mo_ald X h 15 4 rfl (by decide) (j := t) (by omega) (by decide) d_MO_puts_7 ?_
  refine lk_goi (lk_runV (As := [.int (nI p), .int (M 15 t)]) (C := R_MO) X h (c_MO_from l D τ ad M p n hp hc (by omega) (M 15 t)) ⟨gc_MO_from, gm_MO_87, gn_MO, gd_MO_from, by decide, by decide⟩ gi_MO_from gs_MO_from ⟨0, 4, _, _, _, lk_w_get (by decide), rfl⟩ rfl hl.1 (Nat.le_of_ble_eq_true rfl) d_MO_puts_8 ⟨Nat.zero_le _, Nat.zero_le _⟩) h hA (fun r8 σ8 H locs hk9 h => ?_)
  rw [hk9.2] at h
  rw [hk9.1]
  refine lv_istore_n hx hb d_MO_puts_11 rfl hl (by decide) rfl (fun ls hl => ?_)
  have hl : lv_has ls 5 [(3, .int (nI (lk_at M p n (M 15 t)))), (0, .ref (ad 0)), (1, .int (nI t)), (2, .int (nI p))] := hl
  refine lv_aload_n hx hb d_MO_puts_12 rfl (lv_at hl 1 rfl) ?_
  refine lv_iload_n hx hb d_MO_puts_13 rfl (lv_at hl 3 rfl) ?_
  refine lv_aload_n hx hb d_MO_puts_14 rfl (lv_at hl 1 rfl) ?_
  refine mo_get X rfl h 18 (by decide) rfl gf_MO_56 rfl d_MO_puts_15 ?_
  refine lv_iload_n hx hb d_MO_puts_18 rfl (lv_at hl 2 rfl) ?_
  refine mo_ald X h 15 4 rfl (by decide) (j := t) (by omega) (by decide) d_MO_puts_19 ?_
  refine lk_goi (lk_runV (As := [.int (nI p), .int (M 15 t)]) (C := R_MO) X h (c_MO_has l D τ ad M p n hp hc (by omega) (M 15 t)) ⟨gc_MO_has, gm_MO_142, gn_MO, gd_MO_has, by decide, by decide⟩ gi_MO_has gs_MO_has ⟨0, 4, _, _, _, lk_w_get (by decide), rfl⟩ rfl hl.1 (Nat.le_of_ble_eq_true rfl) d_MO_puts_20 ⟨Nat.zero_le _, Nat.zero_le _⟩) h hA (fun r20 σ20 H locs hk9 h => ?_)
  obtain ⟨hk9, hm9⟩ := hk9
  rw [hm9] at h
  rcases hk9 with ⟨e9, hT23⟩ | ⟨e9, hT23⟩
  · rw [e9]
    refine lv_if_eq (tgt := 62) hx hb d_MO_puts_23 (by decide) (fun z => absurd z (by decide)) (fun _ => ?_)
    have hlt : lk_at M p n (M 15 t) < n := hT23.1
    refine lv_aload_n hx hb d_MO_puts_26 rfl (lv_at hl 1 rfl) ?_
    refine mo_get X rfl h 9 (by decide) rfl gf_MO_34 rfl d_MO_puts_27 ?_
    refine lv_iconst (v := nI 5) hx hb d_MO_puts_30 (by decide) ?_
    refine lv_iload_n hx hb d_MO_puts_31 rfl (lv_at hl 3 rfl) ?_
    refine lk_imulN hx hb d_MO_puts_32 ?_
    refine lv_iload_n hx hb d_MO_puts_33 rfl (lv_at hl 0 rfl) ?_
    refine lk_iaddN hx hb d_MO_puts_34 ?_
    refine mo_ald X h 8 120 rfl (by decide) (j := 5 * p + lk_at M p n (M 15 t)) (by omega) (by decide) d_MO_puts_35 ?_
    refine lv_istore hx hb d_MO_puts_36 hl (by decide) rfl (fun ls hl => ?_)
    have hl : lv_has ls 5 [(4, .int (M 8 (5 * p + lk_at M p n (M 15 t)))), (3, .int (nI (lk_at M p n (M 15 t)))), (0, .ref (ad 0)), (1, .int (nI t)), (2, .int (nI p))] := hl
    refine lv_aload_n hx hb d_MO_puts_38 rfl (lv_at hl 2 rfl) ?_
    refine mo_get X rfl h 9 (by decide) rfl gf_MO_34 rfl d_MO_puts_39 ?_
    refine lv_iconst (v := nI 5) hx hb d_MO_puts_42 (by decide) ?_
    refine lv_iload_n hx hb d_MO_puts_43 rfl (lv_at hl 4 rfl) ?_
    refine lk_imulN hx hb d_MO_puts_44 ?_
    refine lv_iload_n hx hb d_MO_puts_45 rfl (lv_at hl 1 rfl) ?_
    refine lk_iaddN hx hb d_MO_puts_46 ?_
    refine lv_aload_n hx hb d_MO_puts_47 rfl (lv_at hl 2 rfl) ?_
    refine mo_get X rfl h 20 (by decide) rfl gf_MO_62 rfl d_MO_puts_48 ?_
    refine lv_iload_n hx hb d_MO_puts_51 rfl (lv_at hl 3 rfl) ?_
    refine mo_ald X h 17 4 rfl (by decide) (j := t) (by omega) (by decide) d_MO_puts_52 ?_
    refine mo_ast X h 8 120 rfl (by decide) (j := 5 * p + lk_at M p n (M 15 t)) (v := M 17 t) (by omega) (by decide) d_MO_puts_53 (fun H locs h => ?_)
    refine lv_aload_n hx hb d_MO_puts_54 rfl (lv_at hl 2 rfl) ?_
    refine lv_iload_n hx hb d_MO_puts_55 rfl (lv_at hl 3 rfl) ?_
    refine lv_iload hx hb d_MO_puts_56 (lv_at hl 0 rfl) ?_
    refine lk_goi (lk_runV (As := [.int (nI t), .int (M 8 (5 * p + lk_at M p n (M 15 t)))]) (C := R_MO) X h (c_MO_finish l D τ ad _ t ht _) ⟨gc_MO_finish, gm_MO_126, gn_MO, gd_MO_finish, by decide, by decide⟩ gi_MO_finish gs_MO_finish ⟨0, 4, _, _, _, lk_w_get (by decide), rfl⟩ rfl hl.1 (Nat.le_of_ble_eq_true rfl) d_MO_puts_58 ⟨Nat.zero_le _, Nat.zero_le _⟩) h hA (fun r58 σ58 H locs hk9 h => ?_)
    rw [hk9.2] at h
    rw [hk9.1]
    exact lk_reti X h d_MO_puts_61 (by rw [mm_puts, if_pos hT23]; exact ⟨rfl, rfl⟩)
  · rw [e9]
    refine lv_if_eq (tgt := 62) hx hb d_MO_puts_23 (by decide) (fun _ => ?_) (fun z => absurd z (by decide))
    refine lv_aload_n hx hb d_MO_puts_62 rfl (lv_at hl 1 rfl) ?_
    refine mo_get X rfl h 6 (by decide) rfl gf_MO_25 rfl d_MO_puts_63 ?_
    refine lv_iload_n hx hb d_MO_puts_66 rfl (lv_at hl 3 rfl) ?_
    refine mo_ald X h 5 24 rfl (by decide) (j := p) (by omega) (by decide) d_MO_puts_67 ?_
    refine lk_top (nI n) (hc) ?_
    refine lv_iconst (v := nI 4) hx hb d_MO_puts_68 (by decide) ?_
    refine lk_cN_ne (tgt := 88) hx hb (by omega) (by omega) d_MO_puts_69 (by decide) (fun h4 => ?_) (fun h4 => ?_)
    · refine lv_aload_n hx hb d_MO_puts_88 rfl (lv_at hl 1 rfl) ?_
      refine lv_iload_n hx hb d_MO_puts_89 rfl (lv_at hl 3 rfl) ?_
      refine lv_iload_n hx hb d_MO_puts_90 rfl (lv_at hl 0 rfl) ?_
      refine lv_aload_n hx hb d_MO_puts_91 rfl (lv_at hl 1 rfl) ?_
      refine mo_get X rfl h 18 (by decide) rfl gf_MO_56 rfl d_MO_puts_92 ?_
      refine lv_iload_n hx hb d_MO_puts_95 rfl (lv_at hl 2 rfl) ?_
      refine mo_ald X h 15 4 rfl (by decide) (j := t) (by omega) (by decide) d_MO_puts_96 ?_
      refine lv_aload_n hx hb d_MO_puts_97 rfl (lv_at hl 1 rfl) ?_
      refine mo_get X rfl h 20 (by decide) rfl gf_MO_62 rfl d_MO_puts_98 ?_
      refine lv_iload_n hx hb d_MO_puts_101 rfl (lv_at hl 2 rfl) ?_
      refine mo_ald X h 17 4 rfl (by decide) (j := t) (by omega) (by decide) d_MO_puts_102 ?_
      refine lk_gov (lk_runV (As := [.int (nI p), .int (nI (lk_at M p n (M 15 t))), .int (M 15 t), .int (M 17 t)]) (C := R_MO) X h (c_MO_insert l D τ ad M p (lk_at M p n (M 15 t)) n hp hc hle hn _ _) ⟨gc_MO_insert, gm_MO_179, gn_MO, gd_MO_insert, by decide, by decide⟩ gi_MO_insert gs_MO_insert ⟨0, 4, _, _, _, lk_w_get (by decide), rfl⟩ rfl hl.1 (Nat.le_of_ble_eq_true rfl) d_MO_puts_103 ⟨Nat.zero_le _, Nat.zero_le _⟩) h hA (fun σ103 H locs hk9 h => ?_)
      rw [hk9] at h
      refine lv_aload_n hx hb d_MO_puts_106 rfl (lv_at hl 1 rfl) ?_
      refine mo_get X rfl h 6 (by decide) rfl gf_MO_25 rfl d_MO_puts_107 ?_
      refine lv_iload_n hx hb d_MO_puts_110 rfl (lv_at hl 3 rfl) ?_
      refine mo_ald X h 5 24 rfl (by decide) (j := p) (by omega) (by decide) d_MO_puts_111 ?_
      refine lk_top (nI (n + 1)) (lk_ins_5.trans (if_pos rfl)) ?_
      refine lv_iconst (v := nI 4) hx hb d_MO_puts_112 (by decide) ?_
      refine lk_cN_gt (tgt := 123) hx hb (by omega) (by omega) d_MO_puts_113 (by decide) (fun h9 => ?_) (fun h9 => ?_)
      · omega
      · refine lv_aload_n hx hb d_MO_puts_116 rfl (lv_at hl 1 rfl) ?_
        refine lv_iload_n hx hb d_MO_puts_117 rfl (lv_at hl 2 rfl) ?_
        refine lv_iconst (v := (-1)) hx hb d_MO_puts_118 (by decide) ?_
        refine lk_goi (lk_runV (As := [.int (nI t), .int (-1)]) (C := R_MO) X h (c_MO_finish l D τ ad _ t ht _) ⟨gc_MO_finish, gm_MO_126, gn_MO, gd_MO_finish, by decide, by decide⟩ gi_MO_finish gs_MO_finish ⟨0, 4, _, _, _, lk_w_get (by decide), rfl⟩ rfl hl.1 (Nat.le_of_ble_eq_true rfl) d_MO_puts_119 ⟨Nat.zero_le _, Nat.zero_le _⟩) h hA (fun r119 σ119 H locs hk9 h => ?_)
        rw [hk9.2] at h
        rw [hk9.1]
        exact lk_reti X h d_MO_puts_122 (by rw [mm_puts, if_neg hT23, if_pos (show n < 4 by omega)]; exact ⟨rfl, rfl⟩)
    · refine lv_aload_n hx hb d_MO_puts_72 rfl (lv_at hl 1 rfl) ?_
      refine lk_goi (lk_runV (As := []) (C := R_MO) X h (c_MO_freePage l D τ ad M) ⟨gc_MO_freePage, gm_MO_146, gn_MO, gd_MO_freePage, by decide, by decide⟩ gi_MO_freePage gs_MO_freePage ⟨0, 4, _, _, _, lk_w_get (by decide), rfl⟩ rfl hl.1 (Nat.le_of_ble_eq_true rfl) d_MO_puts_73 ⟨Nat.zero_le _, Nat.zero_le _⟩) h hA (fun r73 σ73 H locs hk9 h => ?_)
      rw [hk9.2] at h
      rw [hk9.1]
      by_cases hf : lk_free M < 24
      · rw [show lk_nn (lk_free M) 24 = nI (lk_free M) from if_pos hf]
        refine lv_iconst (v := (-1)) hx hb d_MO_puts_76 (by decide) ?_
        refine lv_icmp_ne (tgt := 88) hx hb d_MO_puts_77 (by decide) (fun h5 => ?_) (fun h5 => ?_)
        · refine lv_aload_n hx hb d_MO_puts_88 rfl (lv_at hl 1 rfl) ?_
          refine lv_iload_n hx hb d_MO_puts_89 rfl (lv_at hl 3 rfl) ?_
          refine lv_iload_n hx hb d_MO_puts_90 rfl (lv_at hl 0 rfl) ?_
          refine lv_aload_n hx hb d_MO_puts_91 rfl (lv_at hl 1 rfl) ?_
          refine mo_get X rfl h 18 (by decide) rfl gf_MO_56 rfl d_MO_puts_92 ?_
          refine lv_iload_n hx hb d_MO_puts_95 rfl (lv_at hl 2 rfl) ?_
          refine mo_ald X h 15 4 rfl (by decide) (j := t) (by omega) (by decide) d_MO_puts_96 ?_
          refine lv_aload_n hx hb d_MO_puts_97 rfl (lv_at hl 1 rfl) ?_
          refine mo_get X rfl h 20 (by decide) rfl gf_MO_62 rfl d_MO_puts_98 ?_
          refine lv_iload_n hx hb d_MO_puts_101 rfl (lv_at hl 2 rfl) ?_
          refine mo_ald X h 17 4 rfl (by decide) (j := t) (by omega) (by decide) d_MO_puts_102 ?_
          refine lk_gov (lk_runV (As := [.int (nI p), .int (nI (lk_at M p n (M 15 t))), .int (M 15 t), .int (M 17 t)]) (C := R_MO) X h (c_MO_insert l D τ ad M p (lk_at M p n (M 15 t)) n hp hc hle hn _ _) ⟨gc_MO_insert, gm_MO_179, gn_MO, gd_MO_insert, by decide, by decide⟩ gi_MO_insert gs_MO_insert ⟨0, 4, _, _, _, lk_w_get (by decide), rfl⟩ rfl hl.1 (Nat.le_of_ble_eq_true rfl) d_MO_puts_103 ⟨Nat.zero_le _, Nat.zero_le _⟩) h hA (fun σ103 H locs hk9 h => ?_)
          rw [hk9] at h
          refine lv_aload_n hx hb d_MO_puts_106 rfl (lv_at hl 1 rfl) ?_
          refine mo_get X rfl h 6 (by decide) rfl gf_MO_25 rfl d_MO_puts_107 ?_
          refine lv_iload_n hx hb d_MO_puts_110 rfl (lv_at hl 3 rfl) ?_
          refine mo_ald X h 5 24 rfl (by decide) (j := p) (by omega) (by decide) d_MO_puts_111 ?_
          refine lk_top (nI (n + 1)) (lk_ins_5.trans (if_pos rfl)) ?_
          refine lv_iconst (v := nI 4) hx hb d_MO_puts_112 (by decide) ?_
          refine lk_cN_gt (tgt := 123) hx hb (by omega) (by omega) d_MO_puts_113 (by decide) (fun h9 => ?_) (fun h9 => ?_)
          · refine lv_aload_n hx hb d_MO_puts_123 rfl (lv_at hl 1 rfl) ?_
            refine lv_iload_n hx hb d_MO_puts_124 rfl (lv_at hl 2 rfl) ?_
            refine lv_iload_n hx hb d_MO_puts_125 rfl (lv_at hl 3 rfl) ?_
            refine lk_gov (lk_runV (As := [.int (nI t), .int (nI p)]) (C := R_MO) X h (c_MO_split l D τ ad _ t p (lk_free M) v ht hp hv ((lk_ins_f (by decide) (by decide) (by decide)).trans hl1) hf lk_ins_free (lk_free_ne hkd hf)) ⟨gc_MO_split, gm_MO_183, gn_MO, gd_MO_split, by decide, by decide⟩ gi_MO_split gs_MO_split ⟨0, 4, _, _, _, lk_w_get (by decide), rfl⟩ rfl hl.1 (Nat.le_of_ble_eq_true rfl) d_MO_puts_126 ⟨Nat.zero_le _, Nat.zero_le _⟩) h hA (fun σ126 H locs hk9 h => ?_)
            rw [hk9] at h
            refine lv_iconst (v := 3) hx hb d_MO_puts_129 (by decide) ?_
            exact lk_reti X h d_MO_puts_130 (by rw [mm_puts, if_neg hT23, if_neg (show ¬ n < 4 by omega), if_pos hf]; exact ⟨rfl, rfl⟩)
          · omega
        · exact absurd h5 (lk_nI_m1 (by omega))
      · rw [show lk_nn (lk_free M) 24 = -1 from if_neg hf]
        refine lv_iconst (v := (-1)) hx hb d_MO_puts_76 (by decide) ?_
        refine lv_icmp_ne (tgt := 88) hx hb d_MO_puts_77 (by decide) (fun z => absurd z (by decide)) (fun _ => ?_)
        refine lv_aload_n hx hb d_MO_puts_80 rfl (lv_at hl 1 rfl) ?_
        refine lv_iload_n hx hb d_MO_puts_81 rfl (lv_at hl 2 rfl) ?_
        refine lv_bipush (v := (-2)) hx hb d_MO_puts_82 (by decide) ?_
        refine lk_goi (lk_runV (As := [.int (nI t), .int (-2)]) (C := R_MO) X h (c_MO_finish l D τ ad M t ht (-2)) ⟨gc_MO_finish, gm_MO_126, gn_MO, gd_MO_finish, by decide, by decide⟩ gi_MO_finish gs_MO_finish ⟨0, 4, _, _, _, lk_w_get (by decide), rfl⟩ rfl hl.1 (Nat.le_of_ble_eq_true rfl) d_MO_puts_84 ⟨Nat.zero_le _, Nat.zero_le _⟩) h hA (fun r84 σ84 H locs hk9 h => ?_)
        rw [hk9.2] at h
        rw [hk9.1]
        exact lk_reti X h d_MO_puts_87 (by rw [mm_puts, if_neg hT23, if_neg (show ¬ n < 4 by omega), if_neg hf]; exact ⟨rfl, rfl⟩)
noncomputable def mm_posts (M : lk_M) (t p n v : Nat) : Int32 × lk_M :=
  if n < 4 then (2, mm_fin (lk_st (lk_ins M p (lk_at M p n (M 15 t)) n (M 15 t) (M 8 (5 * p + lk_at M p n (M 15 t)))) 8 (5 * p + lk_at M p n (M 15 t) + 1) (M 18 t)) t (-1))
  else if lk_free M < 24 then (0, mm_split (lk_st (lk_ins M p (lk_at M p n (M 15 t)) n (M 15 t) (M 8 (5 * p + lk_at M p n (M 15 t)))) 8 (5 * p + lk_at M p n (M 15 t) + 1) (M 18 t)) t p (lk_free M) v) else (2, mm_fin M t (-1))
theorem lk_st_free {σ : lk_M} {a i : Nat} {v : Int32} (h : a ≠ 0) : lk_free (lk_st σ a i v) = lk_free σ := by
  unfold lk_free
  have : lk_st σ a i v 0 = σ 0 := by funext j; exact lk_st_f (fun z => h z.symm)
  rw [this]
set_option maxRecDepth 20000 in
theorem c_MO_posts (l : Launch) (D : va_G) (τ : Nat → ClassId) (ad : Nat → Nat) (M : lk_M) (t p n v : Nat) (ht : t < 4) (hp : p < 24) (hc : M 5 p = nI n) (hn : n ≤ 4) (hkd : M 0 p = 1) (hv : v ≤ 23) (hl1 : M 1 p = nI v) (hlt : lk_at M p n (M 15 t) < n) : lk_Ci l D τ 25 ad (lk_me τ ad) y_MO_posts b_MO_posts 4 (.int) 2 49 [.ref (ad 0), .int (nI t), .int (nI p)] M (fun r M1 => r = (mm_posts M t p n v).1 ∧ M1 = (mm_posts M t p n v).2) := by
  refine lk_openi (by decide +kernel) (Nat.le_of_ble_eq_true rfl) ?_
  intro pg en s m args below meth cd ls A X h hA hl
  obtain ⟨hx, hb, -⟩ := id X
  have hl : lv_has ls 4 [(0, .ref (ad 0)), (1, .int (nI t)), (2, .int (nI p))] := hl
  refine lv_aload_n hx hb d_MO_posts_0 rfl (lv_at hl 0 rfl) ?_
  refine mo_get X rfl h 6 (by decide) rfl gf_MO_25 rfl d_MO_posts_1 ?_
  refine lv_iload_n hx hb d_MO_posts_4 rfl (lv_at hl 2 rfl) ?_
  refine mo_ald X h 5 24 rfl (by decide) (j := p) (by omega) (by decide) d_MO_posts_5 ?_
  refine lk_top (nI n) (hc) ?_
  refine lv_iconst (v := nI 4) hx hb d_MO_posts_6 (by decide) ?_
  refine lk_cN_ne (tgt := 25) hx hb (by omega) (by omega) d_MO_posts_7 (by decide) (fun h4 => ?_) (fun h4 => ?_)
  · refine lv_aload_n hx hb d_MO_posts_25 rfl (lv_at hl 0 rfl) ?_
    refine lv_iload_n hx hb d_MO_posts_26 rfl (lv_at hl 2 rfl) ?_
    refine lv_aload_n hx hb d_MO_posts_27 rfl (lv_at hl 0 rfl) ?_
    refine mo_get X rfl h 18 (by decide) rfl gf_MO_56 rfl d_MO_posts_28 ?_
    refine lv_iload_n hx hb d_MO_posts_31 rfl (lv_at hl 1 rfl) ?_
    refine mo_ald X h 15 4 rfl (by decide) (j := t) (by omega) (by decide) d_MO_posts_32 ?_
    refine lk_goi (lk_runV (As := [.int (nI p), .int (M 15 t)]) (C := R_MO) X h (c_MO_from l D τ ad M p n hp hc (by omega) (M 15 t)) ⟨gc_MO_from, gm_MO_87, gn_MO, gd_MO_from, by decide, by decide⟩ gi_MO_from gs_MO_from ⟨0, 4, _, _, _, lk_w_get (by decide), rfl⟩ rfl hl.1 (Nat.le_of_ble_eq_true rfl) d_MO_posts_33 ⟨Nat.zero_le _, Nat.zero_le _⟩) h hA (fun r33 σ33 H locs hk9 h => ?_)
    rw [hk9.2] at h
    rw [hk9.1]
    refine lv_istore_n hx hb d_MO_posts_36 rfl hl (by decide) rfl (fun ls hl => ?_)
    have hl : lv_has ls 4 [(3, .int (nI (lk_at M p n (M 15 t)))), (0, .ref (ad 0)), (1, .int (nI t)), (2, .int (nI p))] := hl
    refine lv_aload_n hx hb d_MO_posts_37 rfl (lv_at hl 1 rfl) ?_
    refine lv_iload_n hx hb d_MO_posts_38 rfl (lv_at hl 3 rfl) ?_
    refine lv_iload_n hx hb d_MO_posts_39 rfl (lv_at hl 0 rfl) ?_
    refine lv_aload_n hx hb d_MO_posts_40 rfl (lv_at hl 1 rfl) ?_
    refine mo_get X rfl h 18 (by decide) rfl gf_MO_56 rfl d_MO_posts_41 ?_
    refine lv_iload_n hx hb d_MO_posts_44 rfl (lv_at hl 2 rfl) ?_
    refine mo_ald X h 15 4 rfl (by decide) (j := t) (by omega) (by decide) d_MO_posts_45 ?_
    refine lv_aload_n hx hb d_MO_posts_46 rfl (lv_at hl 1 rfl) ?_
    refine mo_get X rfl h 9 (by decide) rfl gf_MO_34 rfl d_MO_posts_47 ?_
    refine lv_iconst (v := nI 5) hx hb d_MO_posts_50 (by decide) ?_
    refine lv_iload_n hx hb d_MO_posts_51 rfl (lv_at hl 3 rfl) ?_
    refine lk_imulN hx hb d_MO_posts_52 ?_
    refine lv_iload_n hx hb d_MO_posts_53 rfl (lv_at hl 0 rfl) ?_
    refine lk_iaddN hx hb d_MO_posts_54 ?_
    refine mo_ald X h 8 120 rfl (by decide) (j := 5 * p + lk_at M p n (M 15 t)) (by omega) (by decide) d_MO_posts_55 ?_
    refine lk_gov (lk_runV (As := [.int (nI p), .int (nI (lk_at M p n (M 15 t))), .int (M 15 t), .int (M 8 (5 * p + lk_at M p n (M 15 t)))]) (C := R_MO) X h (c_MO_insert l D τ ad M p (lk_at M p n (M 15 t)) n hp hc (Nat.le_of_lt hlt) hn _ _) ⟨gc_MO_insert, gm_MO_179, gn_MO, gd_MO_insert, by decide, by decide⟩ gi_MO_insert gs_MO_insert ⟨0, 4, _, _, _, lk_w_get (by decide), rfl⟩ rfl hl.1 (Nat.le_of_ble_eq_true rfl) d_MO_posts_56 ⟨Nat.zero_le _, Nat.zero_le _⟩) h hA (fun σ56 H locs hk9 h => ?_)
    rw [hk9] at h
    refine lv_aload_n hx hb d_MO_posts_59 rfl (lv_at hl 1 rfl) ?_
    refine mo_get X rfl h 9 (by decide) rfl gf_MO_34 rfl d_MO_posts_60 ?_
    refine lv_iconst (v := nI 5) hx hb d_MO_posts_63 (by decide) ?_
    refine lv_iload_n hx hb d_MO_posts_64 rfl (lv_at hl 3 rfl) ?_
    refine lk_imulN hx hb d_MO_posts_65 ?_
    refine lv_iload_n hx hb d_MO_posts_66 rfl (lv_at hl 0 rfl) ?_
    refine lk_iaddN hx hb d_MO_posts_67 ?_
    refine lv_iconst (v := nI 1) hx hb d_MO_posts_68 (by decide) ?_
    refine lk_iaddN hx hb d_MO_posts_69 ?_
    refine lv_aload_n hx hb d_MO_posts_70 rfl (lv_at hl 1 rfl) ?_
    refine mo_get X rfl h 21 (by decide) rfl gf_MO_65 rfl d_MO_posts_71 ?_
    refine lv_iload_n hx hb d_MO_posts_74 rfl (lv_at hl 2 rfl) ?_
    refine mo_ald X h 18 4 rfl (by decide) (j := t) (by omega) (by decide) d_MO_posts_75 ?_
    refine lk_top (M 18 t) (lk_ins_f (by decide) (by decide) (by decide)) ?_
    refine mo_ast X h 8 120 rfl (by decide) (j := 5 * p + lk_at M p n (M 15 t) + 1) (v := M 18 t) (by omega) (by decide) d_MO_posts_76 (fun H locs h => ?_)
    refine lv_aload_n hx hb d_MO_posts_77 rfl (lv_at hl 1 rfl) ?_
    refine mo_get X rfl h 6 (by decide) rfl gf_MO_25 rfl d_MO_posts_78 ?_
    refine lv_iload_n hx hb d_MO_posts_81 rfl (lv_at hl 3 rfl) ?_
    refine mo_ald X h 5 24 rfl (by decide) (j := p) (by omega) (by decide) d_MO_posts_82 ?_
    refine lk_top (nI (n + 1)) ((lk_st_f (by decide)).trans (lk_ins_5.trans (if_pos rfl))) ?_
    refine lv_iconst (v := nI 4) hx hb d_MO_posts_83 (by decide) ?_
    refine lk_cN_gt (tgt := 94) hx hb (by omega) (by omega) d_MO_posts_84 (by decide) (fun h9 => ?_) (fun h9 => ?_)
    · omega
    · refine lv_aload_n hx hb d_MO_posts_87 rfl (lv_at hl 1 rfl) ?_
      refine lv_iload_n hx hb d_MO_posts_88 rfl (lv_at hl 2 rfl) ?_
      refine lv_iconst (v := (-1)) hx hb d_MO_posts_89 (by decide) ?_
      refine lk_goi (lk_runV (As := [.int (nI t), .int (-1)]) (C := R_MO) X h (c_MO_finish l D τ ad _ t ht _) ⟨gc_MO_finish, gm_MO_126, gn_MO, gd_MO_finish, by decide, by decide⟩ gi_MO_finish gs_MO_finish ⟨0, 4, _, _, _, lk_w_get (by decide), rfl⟩ rfl hl.1 (Nat.le_of_ble_eq_true rfl) d_MO_posts_90 ⟨Nat.zero_le _, Nat.zero_le _⟩) h hA (fun r90 σ90 H locs hk9 h => ?_)
      rw [hk9.2] at h
      rw [hk9.1]
      exact lk_reti X h d_MO_posts_93 (by rw [mm_posts, if_pos (show n < 4 by omega)]; exact ⟨rfl, rfl⟩)
  · refine lv_aload_n hx hb d_MO_posts_10 rfl (lv_at hl 0 rfl) ?_
    refine lk_goi (lk_runV (As := []) (C := R_MO) X h (c_MO_freePage l D τ ad M) ⟨gc_MO_freePage, gm_MO_146, gn_MO, gd_MO_freePage, by decide, by decide⟩ gi_MO_freePage gs_MO_freePage ⟨0, 4, _, _, _, lk_w_get (by decide), rfl⟩ rfl hl.1 (Nat.le_of_ble_eq_true rfl) d_MO_posts_11 ⟨Nat.zero_le _, Nat.zero_le _⟩) h hA (fun r11 σ11 H locs hk9 h => ?_)
    rw [hk9.2] at h
    rw [hk9.1]
    by_cases hf : lk_free M < 24
    · rw [show lk_nn (lk_free M) 24 = nI (lk_free M) from if_pos hf]
      refine lv_iconst (v := (-1)) hx hb d_MO_posts_14 (by decide) ?_
      refine lv_icmp_ne (tgt := 25) hx hb d_MO_posts_15 (by decide) (fun h5 => ?_) (fun h5 => ?_)
      · refine lv_aload_n hx hb d_MO_posts_25 rfl (lv_at hl 0 rfl) ?_
        refine lv_iload_n hx hb d_MO_posts_26 rfl (lv_at hl 2 rfl) ?_
        refine lv_aload_n hx hb d_MO_posts_27 rfl (lv_at hl 0 rfl) ?_
        refine mo_get X rfl h 18 (by decide) rfl gf_MO_56 rfl d_MO_posts_28 ?_
        refine lv_iload_n hx hb d_MO_posts_31 rfl (lv_at hl 1 rfl) ?_
        refine mo_ald X h 15 4 rfl (by decide) (j := t) (by omega) (by decide) d_MO_posts_32 ?_
        refine lk_goi (lk_runV (As := [.int (nI p), .int (M 15 t)]) (C := R_MO) X h (c_MO_from l D τ ad M p n hp hc (by omega) (M 15 t)) ⟨gc_MO_from, gm_MO_87, gn_MO, gd_MO_from, by decide, by decide⟩ gi_MO_from gs_MO_from ⟨0, 4, _, _, _, lk_w_get (by decide), rfl⟩ rfl hl.1 (Nat.le_of_ble_eq_true rfl) d_MO_posts_33 ⟨Nat.zero_le _, Nat.zero_le _⟩) h hA (fun r33 σ33 H locs hk9 h => ?_)
        rw [hk9.2] at h
        rw [hk9.1]
        refine lv_istore_n hx hb d_MO_posts_36 rfl hl (by decide) rfl (fun ls hl => ?_)
        have hl : lv_has ls 4 [(3, .int (nI (lk_at M p n (M 15 t)))), (0, .ref (ad 0)), (1, .int (nI t)), (2, .int (nI p))] := hl
        refine lv_aload_n hx hb d_MO_posts_37 rfl (lv_at hl 1 rfl) ?_
        refine lv_iload_n hx hb d_MO_posts_38 rfl (lv_at hl 3 rfl) ?_
        refine lv_iload_n hx hb d_MO_posts_39 rfl (lv_at hl 0 rfl) ?_
        refine lv_aload_n hx hb d_MO_posts_40 rfl (lv_at hl 1 rfl) ?_
        refine mo_get X rfl h 18 (by decide) rfl gf_MO_56 rfl d_MO_posts_41 ?_
        refine lv_iload_n hx hb d_MO_posts_44 rfl (lv_at hl 2 rfl) ?_
        refine mo_ald X h 15 4 rfl (by decide) (j := t) (by omega) (by decide) d_MO_posts_45 ?_
        refine lv_aload_n hx hb d_MO_posts_46 rfl (lv_at hl 1 rfl) ?_
        refine mo_get X rfl h 9 (by decide) rfl gf_MO_34 rfl d_MO_posts_47 ?_
        refine lv_iconst (v := nI 5) hx hb d_MO_posts_50 (by decide) ?_
        refine lv_iload_n hx hb d_MO_posts_51 rfl (lv_at hl 3 rfl) ?_
        refine lk_imulN hx hb d_MO_posts_52 ?_
        refine lv_iload_n hx hb d_MO_posts_53 rfl (lv_at hl 0 rfl) ?_
        refine lk_iaddN hx hb d_MO_posts_54 ?_
        refine mo_ald X h 8 120 rfl (by decide) (j := 5 * p + lk_at M p n (M 15 t)) (by omega) (by decide) d_MO_posts_55 ?_
        refine lk_gov (lk_runV (As := [.int (nI p), .int (nI (lk_at M p n (M 15 t))), .int (M 15 t), .int (M 8 (5 * p + lk_at M p n (M 15 t)))]) (C := R_MO) X h (c_MO_insert l D τ ad M p (lk_at M p n (M 15 t)) n hp hc (Nat.le_of_lt hlt) hn _ _) ⟨gc_MO_insert, gm_MO_179, gn_MO, gd_MO_insert, by decide, by decide⟩ gi_MO_insert gs_MO_insert ⟨0, 4, _, _, _, lk_w_get (by decide), rfl⟩ rfl hl.1 (Nat.le_of_ble_eq_true rfl) d_MO_posts_56 ⟨Nat.zero_le _, Nat.zero_le _⟩) h hA (fun σ56 H locs hk9 h => ?_)
        rw [hk9] at h
        refine lv_aload_n hx hb d_MO_posts_59 rfl (lv_at hl 1 rfl) ?_
        refine mo_get X rfl h 9 (by decide) rfl gf_MO_34 rfl d_MO_posts_60 ?_
        refine lv_iconst (v := nI 5) hx hb d_MO_posts_63 (by decide) ?_
        refine lv_iload_n hx hb d_MO_posts_64 rfl (lv_at hl 3 rfl) ?_
        refine lk_imulN hx hb d_MO_posts_65 ?_
        refine lv_iload_n hx hb d_MO_posts_66 rfl (lv_at hl 0 rfl) ?_
        refine lk_iaddN hx hb d_MO_posts_67 ?_
        refine lv_iconst (v := nI 1) hx hb d_MO_posts_68 (by decide) ?_
        refine lk_iaddN hx hb d_MO_posts_69 ?_
        refine lv_aload_n hx hb d_MO_posts_70 rfl (lv_at hl 1 rfl) ?_
        refine mo_get X rfl h 21 (by decide) rfl gf_MO_65 rfl d_MO_posts_71 ?_
        refine lv_iload_n hx hb d_MO_posts_74 rfl (lv_at hl 2 rfl) ?_
        refine mo_ald X h 18 4 rfl (by decide) (j := t) (by omega) (by decide) d_MO_posts_75 ?_
        refine lk_top (M 18 t) (lk_ins_f (by decide) (by decide) (by decide)) ?_
        refine mo_ast X h 8 120 rfl (by decide) (j := 5 * p + lk_at M p n (M 15 t) + 1) (v := M 18 t) (by omega) (by decide) d_MO_posts_76 (fun H locs h => ?_)
        refine lv_aload_n hx hb d_MO_posts_77 rfl (lv_at hl 1 rfl) ?_
        refine mo_get X rfl h 6 (by decide) rfl gf_MO_25 rfl d_MO_posts_78 ?_
        refine lv_iload_n hx hb d_MO_posts_81 rfl (lv_at hl 3 rfl) ?_
        refine mo_ald X h 5 24 rfl (by decide) (j := p) (by omega) (by decide) d_MO_posts_82 ?_
        refine lk_top (nI (n + 1)) ((lk_st_f (by decide)).trans (lk_ins_5.trans (if_pos rfl))) ?_
        refine lv_iconst (v := nI 4) hx hb d_MO_posts_83 (by decide) ?_
        refine lk_cN_gt (tgt := 94) hx hb (by omega) (by omega) d_MO_posts_84 (by decide) (fun h9 => ?_) (fun h9 => ?_)
        · refine lv_aload_n hx hb d_MO_posts_94 rfl (lv_at hl 1 rfl) ?_
          refine lv_iload_n hx hb d_MO_posts_95 rfl (lv_at hl 2 rfl) ?_
          refine lv_iload_n hx hb d_MO_posts_96 rfl (lv_at hl 3 rfl) ?_
          refine lk_gov (lk_runV (As := [.int (nI t), .int (nI p)]) (C := R_MO) X h (c_MO_split l D τ ad _ t p (lk_free M) v ht hp hv ((lk_st_f (by decide)).trans ((lk_ins_f (by decide) (by decide) (by decide)).trans hl1)) hf ((lk_st_free (by decide)).trans lk_ins_free) (lk_free_ne hkd hf)) ⟨gc_MO_split, gm_MO_183, gn_MO, gd_MO_split, by decide, by decide⟩ gi_MO_split gs_MO_split ⟨0, 4, _, _, _, lk_w_get (by decide), rfl⟩ rfl hl.1 (Nat.le_of_ble_eq_true rfl) d_MO_posts_97 ⟨Nat.zero_le _, Nat.zero_le _⟩) h hA (fun σ97 H locs hk9 h => ?_)
          rw [hk9] at h
          refine lv_iconst (v := 0) hx hb d_MO_posts_100 (by decide) ?_
          exact lk_reti X h d_MO_posts_101 (by rw [mm_posts, if_neg (show ¬ n < 4 by omega), if_pos hf]; exact ⟨rfl, rfl⟩)
        · omega
      · exact absurd h5 (lk_nI_m1 (by omega))
    · rw [show lk_nn (lk_free M) 24 = -1 from if_neg hf]
      refine lv_iconst (v := (-1)) hx hb d_MO_posts_14 (by decide) ?_
      refine lv_icmp_ne (tgt := 25) hx hb d_MO_posts_15 (by decide) (fun z => absurd z (by decide)) (fun _ => ?_)
      refine lv_aload_n hx hb d_MO_posts_18 rfl (lv_at hl 0 rfl) ?_
      refine lv_iload_n hx hb d_MO_posts_19 rfl (lv_at hl 1 rfl) ?_
      refine lv_iconst (v := (-1)) hx hb d_MO_posts_20 (by decide) ?_
      refine lk_goi (lk_runV (As := [.int (nI t), .int (-1)]) (C := R_MO) X h (c_MO_finish l D τ ad M t ht (-1)) ⟨gc_MO_finish, gm_MO_126, gn_MO, gd_MO_finish, by decide, by decide⟩ gi_MO_finish gs_MO_finish ⟨0, 4, _, _, _, lk_w_get (by decide), rfl⟩ rfl hl.1 (Nat.le_of_ble_eq_true rfl) d_MO_posts_21 ⟨Nat.zero_le _, Nat.zero_le _⟩) h hA (fun r21 σ21 H locs hk9 h => ?_)
      rw [hk9.2] at h
      rw [hk9.1]
      exact lk_reti X h d_MO_posts_24 (by rw [mm_posts, if_neg (show ¬ n < 4 by omega), if_neg hf]; exact ⟨rfl, rfl⟩)
end
section
theorem lk_del_f {σ : lk_M} {q k n i f : Nat} (h5 : f ≠ 5) (h7 : f ≠ 7) (h8 : f ≠ 8) : lk_del σ q k n f i = σ f i := by
  unfold lk_del
  simp only [lk_up_eq]
  rw [if_neg h5, if_neg h8, if_neg h7]
theorem lk_del_5 {σ : lk_M} {q k n i : Nat} : lk_del σ q k n 5 i = if i = q then nI (n - 1) else σ 5 i := by
  unfold lk_del
  simp only [lk_up_eq, upd]
  simp
noncomputable def mm_removes (M : lk_M) (t p n rt nq : Nat) : Int32 × lk_M :=
  @ite _ (lk_hk M p n (M 15 t)) (Classical.propDecidable _) (2, mm_fin (if n - 1 < 2 ∧ p ≠ rt then lk_cq (lk_del M p (lk_at M p n (M 15 t)) n) (nI p) nq else lk_del M p (lk_at M p n (M 15 t)) n) t (M 8 (5 * p + lk_at M p n (M 15 t)))) (2, mm_fin M t (-1))
set_option maxRecDepth 20000 in
theorem c_MO_removes (l : Launch) (D : va_G) (τ : Nat → ClassId) (ad : Nat → Nat) (M : lk_M) (t p n rt nq : Nat) (ht : t < 4) (hp : p < 24) (hc : M 5 p = nI n) (hn : n ≤ 4) (hrt : rt < 24) (hr0 : M 24 0 = nI rt) (hnq : nq ≤ 12) (hq0 : M 24 1 = nI nq) : lk_Ci l D τ 25 ad (lk_me τ ad) y_MO_removes b_MO_removes 5 (.int) 2 46 [.ref (ad 0), .int (nI t), .int (nI p)] M (fun r M1 => r = (mm_removes M t p n rt nq).1 ∧ M1 = (mm_removes M t p n rt nq).2) := by
  refine lk_openi (by decide +kernel) (Nat.le_of_ble_eq_true rfl) ?_
  intro pg en s m args below meth cd ls A X h hA hl
  obtain ⟨hx, hb, -⟩ := id X
  have hl : lv_has ls 5 [(0, .ref (ad 0)), (1, .int (nI t)), (2, .int (nI p))] := hl
  have hle := lk_at_le M p n (M 15 t)
  refine lv_aload_n hx hb d_MO_removes_0 rfl (lv_at hl 0 rfl) ?_
  refine lv_iload_n hx hb d_MO_removes_1 rfl (lv_at hl 2 rfl) ?_
  refine lv_aload_n hx hb d_MO_removes_2 rfl (lv_at hl 0 rfl) ?_
  refine mo_get X rfl h 18 (by decide) rfl gf_MO_56 rfl d_MO_removes_3 ?_
  refine lv_iload_n hx hb d_MO_removes_6 rfl (lv_at hl 1 rfl) ?_
  refine mo_ald X h 15 4 rfl (by decide) (j := t) (by omega) (by decide) d_MO_removes_7 ?_
  refine lk_goi (lk_runV (As := [.int (nI p), .int (M 15 t)]) (C := R_MO) X h (c_MO_has l D τ ad M p n hp hc (by omega) (M 15 t)) ⟨gc_MO_has, gm_MO_142, gn_MO, gd_MO_has, by decide, by decide⟩ gi_MO_has gs_MO_has ⟨0, 4, _, _, _, lk_w_get (by decide), rfl⟩ rfl hl.1 (Nat.le_of_ble_eq_true rfl) d_MO_removes_8 ⟨Nat.zero_le _, Nat.zero_le _⟩) h hA (fun r8 σ8 H locs hk9 h => ?_)
  obtain ⟨hk9, hm9⟩ := hk9
  rw [hm9] at h
  rcases hk9 with ⟨e9, hT11⟩ | ⟨e9, hT11⟩
  · rw [e9]
    refine lv_if_ne (tgt := 21) hx hb d_MO_removes_11 (by decide) (fun _ => ?_) (fun z => absurd z (by decide))
    have hlt : lk_at M p n (M 15 t) < n := hT11.1
    refine lv_aload_n hx hb d_MO_removes_21 rfl (lv_at hl 0 rfl) ?_
    refine lv_iload_n hx hb d_MO_removes_22 rfl (lv_at hl 2 rfl) ?_
    refine lv_aload_n hx hb d_MO_removes_23 rfl (lv_at hl 0 rfl) ?_
    refine mo_get X rfl h 18 (by decide) rfl gf_MO_56 rfl d_MO_removes_24 ?_
    refine lv_iload_n hx hb d_MO_removes_27 rfl (lv_at hl 1 rfl) ?_
    refine mo_ald X h 15 4 rfl (by decide) (j := t) (by omega) (by decide) d_MO_removes_28 ?_
    refine lk_goi (lk_runV (As := [.int (nI p), .int (M 15 t)]) (C := R_MO) X h (c_MO_from l D τ ad M p n hp hc (by omega) (M 15 t)) ⟨gc_MO_from, gm_MO_87, gn_MO, gd_MO_from, by decide, by decide⟩ gi_MO_from gs_MO_from ⟨0, 4, _, _, _, lk_w_get (by decide), rfl⟩ rfl hl.1 (Nat.le_of_ble_eq_true rfl) d_MO_removes_29 ⟨Nat.zero_le _, Nat.zero_le _⟩) h hA (fun r29 σ29 H locs hk9 h => ?_)
    rw [hk9.2] at h
    rw [hk9.1]
    refine lv_istore_n hx hb d_MO_removes_32 rfl hl (by decide) rfl (fun ls hl => ?_)
    have hl : lv_has ls 5 [(3, .int (nI (lk_at M p n (M 15 t)))), (0, .ref (ad 0)), (1, .int (nI t)), (2, .int (nI p))] := hl
    refine lv_aload_n hx hb d_MO_removes_33 rfl (lv_at hl 1 rfl) ?_
    refine mo_get X rfl h 9 (by decide) rfl gf_MO_34 rfl d_MO_removes_34 ?_
    refine lv_iconst (v := nI 5) hx hb d_MO_removes_37 (by decide) ?_
    refine lv_iload_n hx hb d_MO_removes_38 rfl (lv_at hl 3 rfl) ?_
    refine lk_imulN hx hb d_MO_removes_39 ?_
    refine lv_iload_n hx hb d_MO_removes_40 rfl (lv_at hl 0 rfl) ?_
    refine lk_iaddN hx hb d_MO_removes_41 ?_
    refine mo_ald X h 8 120 rfl (by decide) (j := 5 * p + lk_at M p n (M 15 t)) (by omega) (by decide) d_MO_removes_42 ?_
    refine lv_istore hx hb d_MO_removes_43 hl (by decide) rfl (fun ls hl => ?_)
    have hl : lv_has ls 5 [(4, .int (M 8 (5 * p + lk_at M p n (M 15 t)))), (3, .int (nI (lk_at M p n (M 15 t)))), (0, .ref (ad 0)), (1, .int (nI t)), (2, .int (nI p))] := hl
    refine lv_aload_n hx hb d_MO_removes_45 rfl (lv_at hl 2 rfl) ?_
    refine lv_iload_n hx hb d_MO_removes_46 rfl (lv_at hl 4 rfl) ?_
    refine lv_iload_n hx hb d_MO_removes_47 rfl (lv_at hl 1 rfl) ?_
    refine lk_gov (lk_runV (As := [.int (nI p), .int (nI (lk_at M p n (M 15 t)))]) (C := R_MO) X h (c_MO_takeOut l D τ ad M p (lk_at M p n (M 15 t)) n hp hc hlt (by omega)) ⟨gc_MO_takeOut, gm_MO_186, gn_MO, gd_MO_takeOut, by decide, by decide⟩ gi_MO_takeOut gs_MO_takeOut ⟨0, 4, _, _, _, lk_w_get (by decide), rfl⟩ rfl hl.1 (Nat.le_of_ble_eq_true rfl) d_MO_removes_48 ⟨Nat.zero_le _, Nat.zero_le _⟩) h hA (fun σ48 H locs hk9 h => ?_)
    rw [hk9] at h
    refine lv_aload_n hx hb d_MO_removes_51 rfl (lv_at hl 2 rfl) ?_
    refine mo_get X rfl h 6 (by decide) rfl gf_MO_25 rfl d_MO_removes_52 ?_
    refine lv_iload_n hx hb d_MO_removes_55 rfl (lv_at hl 4 rfl) ?_
    refine mo_ald X h 5 24 rfl (by decide) (j := p) (by omega) (by decide) d_MO_removes_56 ?_
    refine lk_top (nI (n - 1)) (lk_del_5.trans (if_pos rfl)) ?_
    refine lv_iconst (v := nI 2) hx hb d_MO_removes_57 (by decide) ?_
    refine lk_cN_ge (tgt := 74) hx hb (by omega) (by omega) d_MO_removes_58 (by decide) (fun h1 => ?_) (fun h1 => ?_)
    · refine lv_aload_n hx hb d_MO_removes_74 rfl (lv_at hl 2 rfl) ?_
      refine lv_iload_n hx hb d_MO_removes_75 rfl (lv_at hl 3 rfl) ?_
      refine lv_iload hx hb d_MO_removes_76 (lv_at hl 0 rfl) ?_
      refine lk_goi (lk_runV (As := [.int (nI t), .int (M 8 (5 * p + lk_at M p n (M 15 t)))]) (C := R_MO) X h (c_MO_finish l D τ ad _ t ht _) ⟨gc_MO_finish, gm_MO_126, gn_MO, gd_MO_finish, by decide, by decide⟩ gi_MO_finish gs_MO_finish ⟨0, 4, _, _, _, lk_w_get (by decide), rfl⟩ rfl hl.1 (Nat.le_of_ble_eq_true rfl) d_MO_removes_78 ⟨Nat.zero_le _, Nat.zero_le _⟩) h hA (fun r78 σ78 H locs hk9 h => ?_)
      rw [hk9.2] at h
      rw [hk9.1]
      exact lk_reti X h d_MO_removes_81 (by rw [mm_removes, if_pos hT11, if_neg (fun z => absurd z.1 (by omega))]; exact ⟨rfl, rfl⟩)
    · refine lv_iload_n hx hb d_MO_removes_61 rfl (lv_at hl 4 rfl) ?_
      refine lv_aload_n hx hb d_MO_removes_62 rfl (lv_at hl 2 rfl) ?_
      refine mo_get X rfl h 11 (by decide) rfl gf_MO_108 rfl d_MO_removes_63 ?_
      refine lk_top (nI rt) ((lk_del_f (by decide) (by decide) (by decide)).trans hr0) ?_
      refine lk_cN_eq (tgt := 74) hx hb (by omega) (by omega) d_MO_removes_66 (by decide) (fun h2 => ?_) (fun h2 => ?_)
      · refine lv_aload_n hx hb d_MO_removes_74 rfl (lv_at hl 2 rfl) ?_
        refine lv_iload_n hx hb d_MO_removes_75 rfl (lv_at hl 3 rfl) ?_
        refine lv_iload hx hb d_MO_removes_76 (lv_at hl 0 rfl) ?_
        refine lk_goi (lk_runV (As := [.int (nI t), .int (M 8 (5 * p + lk_at M p n (M 15 t)))]) (C := R_MO) X h (c_MO_finish l D τ ad _ t ht _) ⟨gc_MO_finish, gm_MO_126, gn_MO, gd_MO_finish, by decide, by decide⟩ gi_MO_finish gs_MO_finish ⟨0, 4, _, _, _, lk_w_get (by decide), rfl⟩ rfl hl.1 (Nat.le_of_ble_eq_true rfl) d_MO_removes_78 ⟨Nat.zero_le _, Nat.zero_le _⟩) h hA (fun r78 σ78 H locs hk9 h => ?_)
        rw [hk9.2] at h
        rw [hk9.1]
        exact lk_reti X h d_MO_removes_81 (by rw [mm_removes, if_pos hT11, if_neg (fun z => z.2 h2)]; exact ⟨rfl, rfl⟩)
      · refine lv_aload_n hx hb d_MO_removes_69 rfl (lv_at hl 2 rfl) ?_
        refine lv_iload_n hx hb d_MO_removes_70 rfl (lv_at hl 4 rfl) ?_
        refine lk_gov (lk_runV (As := [.int (nI p)]) (C := R_MO) X h (c_MO_comeIntoQueue l D τ ad _ nq ((lk_del_f (by decide) (by decide) (by decide)).trans hq0) hnq (nI p)) ⟨gc_MO_comeIntoQueue, gm_MO_189, gn_MO, gd_MO_comeIntoQueue, by decide, by decide⟩ gi_MO_comeIntoQueue gs_MO_comeIntoQueue ⟨0, 4, _, _, _, lk_w_get (by decide), rfl⟩ rfl hl.1 (Nat.le_of_ble_eq_true rfl) d_MO_removes_71 ⟨Nat.zero_le _, Nat.zero_le _⟩) h hA (fun σ71 H locs hk9 h => ?_)
        rw [hk9] at h
        refine lv_aload_n hx hb d_MO_removes_74 rfl (lv_at hl 2 rfl) ?_
        refine lv_iload_n hx hb d_MO_removes_75 rfl (lv_at hl 3 rfl) ?_
        refine lv_iload hx hb d_MO_removes_76 (lv_at hl 0 rfl) ?_
        refine lk_goi (lk_runV (As := [.int (nI t), .int (M 8 (5 * p + lk_at M p n (M 15 t)))]) (C := R_MO) X h (c_MO_finish l D τ ad _ t ht _) ⟨gc_MO_finish, gm_MO_126, gn_MO, gd_MO_finish, by decide, by decide⟩ gi_MO_finish gs_MO_finish ⟨0, 4, _, _, _, lk_w_get (by decide), rfl⟩ rfl hl.1 (Nat.le_of_ble_eq_true rfl) d_MO_removes_78 ⟨Nat.zero_le _, Nat.zero_le _⟩) h hA (fun r78 σ78 H locs hk9 h => ?_)
        rw [hk9.2] at h
        rw [hk9.1]
        exact lk_reti X h d_MO_removes_81 (by rw [mm_removes, if_pos hT11, if_pos ⟨h1, h2⟩]; exact ⟨rfl, rfl⟩)
  · rw [e9]
    refine lv_if_ne (tgt := 21) hx hb d_MO_removes_11 (by decide) (fun z => absurd z (by decide)) (fun _ => ?_)
    refine lv_aload_n hx hb d_MO_removes_14 rfl (lv_at hl 0 rfl) ?_
    refine lv_iload_n hx hb d_MO_removes_15 rfl (lv_at hl 1 rfl) ?_
    refine lv_iconst (v := (-1)) hx hb d_MO_removes_16 (by decide) ?_
    refine lk_goi (lk_runV (As := [.int (nI t), .int (-1)]) (C := R_MO) X h (c_MO_finish l D τ ad M t ht (-1)) ⟨gc_MO_finish, gm_MO_126, gn_MO, gd_MO_finish, by decide, by decide⟩ gi_MO_finish gs_MO_finish ⟨0, 4, _, _, _, lk_w_get (by decide), rfl⟩ rfl hl.1 (Nat.le_of_ble_eq_true rfl) d_MO_removes_17 ⟨Nat.zero_le _, Nat.zero_le _⟩) h hA (fun r17 σ17 H locs hk9 h => ?_)
    rw [hk9.2] at h
    rw [hk9.1]
    exact lk_reti X h d_MO_removes_20 (by rw [mm_removes, if_neg hT11]; exact ⟨rfl, rfl⟩)
noncomputable def mm_shrinks (M : lk_M) (t p rt nq : Nat) : lk_M :=
  if p = rt ∧ M 4 p = -1 then mm_die (lk_st M 24 0 (M 8 (5 * p))) p t nq else lk_cq M (nI p) nq
set_option maxRecDepth 20000 in
theorem c_MO_shrinks (l : Launch) (D : va_G) (τ : Nat → ClassId) (ad : Nat → Nat) (M : lk_M) (t p rt nq : Nat) (ht : t < 4) (hp : p < 24) (hrt : rt < 24) (hr0 : M 24 0 = nI rt) (hnq : nq ≤ 12) (hq0 : M 24 1 = nI nq) : lk_Cv l D τ 25 ad (lk_me τ ad) y_MO_shrinks b_MO_shrinks 3 2 46 [.ref (ad 0), .int (nI t), .int (nI p)] M (fun M1 => M1 = mm_shrinks M t p rt nq) := by
  refine lk_openv (by decide +kernel) (Nat.le_of_ble_eq_true rfl) ?_
  intro pg en s m args below meth cd ls A X h hA hl
  obtain ⟨hx, hb, -⟩ := id X
  have hl : lv_has ls 3 [(0, .ref (ad 0)), (1, .int (nI t)), (2, .int (nI p))] := hl
  refine lv_iload_n hx hb d_MO_shrinks_0 rfl (lv_at hl 2 rfl) ?_
  refine lv_aload_n hx hb d_MO_shrinks_1 rfl (lv_at hl 0 rfl) ?_
  refine mo_get X rfl h 11 (by decide) rfl gf_MO_108 rfl d_MO_shrinks_2 ?_
  refine lk_top (nI rt) (hr0) ?_
  refine lk_cN_ne (tgt := 18) hx hb (by omega) (by omega) d_MO_shrinks_5 (by decide) (fun h1 => ?_) (fun h1 => ?_)
  · refine lv_aload_n hx hb d_MO_shrinks_18 rfl (lv_at hl 0 rfl) ?_
    refine lv_iload_n hx hb d_MO_shrinks_19 rfl (lv_at hl 2 rfl) ?_
    refine lk_gov (lk_runV (As := [.int (nI p)]) (C := R_MO) X h (c_MO_comeIntoQueue l D τ ad M nq hq0 hnq (nI p)) ⟨gc_MO_comeIntoQueue, gm_MO_189, gn_MO, gd_MO_comeIntoQueue, by decide, by decide⟩ gi_MO_comeIntoQueue gs_MO_comeIntoQueue ⟨0, 4, _, _, _, lk_w_get (by decide), rfl⟩ rfl hl.1 (Nat.le_of_ble_eq_true rfl) d_MO_shrinks_20 ⟨Nat.zero_le _, Nat.zero_le _⟩) h hA (fun σ20 H locs hk9 h => ?_)
    rw [hk9] at h
    exact lk_retv X h d_MO_shrinks_23 (by rw [mm_shrinks, if_neg (fun z => h1 z.1)])
  · refine lv_aload_n hx hb d_MO_shrinks_8 rfl (lv_at hl 0 rfl) ?_
    refine mo_get X rfl h 5 (by decide) rfl gf_MO_22 rfl d_MO_shrinks_9 ?_
    refine lv_iload_n hx hb d_MO_shrinks_12 rfl (lv_at hl 2 rfl) ?_
    refine mo_ald X h 4 24 rfl (by decide) (j := p) (by omega) (by decide) d_MO_shrinks_13 ?_
    refine lv_iconst (v := (-1)) hx hb d_MO_shrinks_14 (by decide) ?_
    refine lv_icmp_eq (tgt := 24) hx hb d_MO_shrinks_15 (by decide) (fun h2 => ?_) (fun h2 => ?_)
    · refine lv_aload_n hx hb d_MO_shrinks_24 rfl (lv_at hl 0 rfl) ?_
      refine lv_aload_n hx hb d_MO_shrinks_25 rfl (lv_at hl 0 rfl) ?_
      refine mo_get X rfl h 9 (by decide) rfl gf_MO_34 rfl d_MO_shrinks_26 ?_
      refine lv_iconst (v := nI 5) hx hb d_MO_shrinks_29 (by decide) ?_
      refine lv_iload_n hx hb d_MO_shrinks_30 rfl (lv_at hl 2 rfl) ?_
      refine lk_imulN hx hb d_MO_shrinks_31 ?_
      refine mo_ald X h 8 120 rfl (by decide) (j := 5 * p) (by omega) (by decide) d_MO_shrinks_32 ?_
      refine mo_put X rfl h 11 0 (by decide) gf_MO_108 d_MO_shrinks_33 (fun H locs h => ?_)
      refine lv_aload_n hx hb d_MO_shrinks_36 rfl (lv_at hl 0 rfl) ?_
      refine lv_iload_n hx hb d_MO_shrinks_37 rfl (lv_at hl 2 rfl) ?_
      refine lv_iload_n hx hb d_MO_shrinks_38 rfl (lv_at hl 1 rfl) ?_
      refine lk_gov (lk_runV (As := [.int (nI p), .int (nI t)]) (C := R_MO) X h (c_MO_die l D τ ad _ p t nq hp ht ((lk_st_p (by decide)).trans hq0) hnq) ⟨gc_MO_die, gm_MO_198, gn_MO, gd_MO_die, by decide, by decide⟩ gi_MO_die gs_MO_die ⟨0, 4, _, _, _, lk_w_get (by decide), rfl⟩ rfl hl.1 (Nat.le_of_ble_eq_true rfl) d_MO_shrinks_39 ⟨Nat.zero_le _, Nat.zero_le _⟩) h hA (fun σ39 H locs hk9 h => ?_)
      rw [hk9] at h
      exact lk_retv X h d_MO_shrinks_42 (by rw [mm_shrinks, if_pos ⟨h1, h2⟩])
    · refine lv_aload_n hx hb d_MO_shrinks_18 rfl (lv_at hl 0 rfl) ?_
      refine lv_iload_n hx hb d_MO_shrinks_19 rfl (lv_at hl 2 rfl) ?_
      refine lk_gov (lk_runV (As := [.int (nI p)]) (C := R_MO) X h (c_MO_comeIntoQueue l D τ ad M nq hq0 hnq (nI p)) ⟨gc_MO_comeIntoQueue, gm_MO_189, gn_MO, gd_MO_comeIntoQueue, by decide, by decide⟩ gi_MO_comeIntoQueue gs_MO_comeIntoQueue ⟨0, 4, _, _, _, lk_w_get (by decide), rfl⟩ rfl hl.1 (Nat.le_of_ble_eq_true rfl) d_MO_shrinks_20 ⟨Nat.zero_le _, Nat.zero_le _⟩) h hA (fun σ20 H locs hk9 h => ?_)
      rw [hk9] at h
      exact lk_retv X h d_MO_shrinks_23 (by rw [mm_shrinks, if_neg (fun z => h2 z.2)])
noncomputable def mm_searches (M : lk_M) (t p n v rt : Nat) : Int32 × lk_M :=
  if M 12 t = 3 ∧ M 18 t = -1 then (2, mm_fin M t 0) else @ite _ (lk_lost M t p) (Classical.propDecidable _) (0, lk_rst M t) (if M 3 p < M 15 t then (0, lk_rgt M t p) else if M 16 t < M 1 p then (0, lk_st (lk_st M 19 (32 * t + v) (nI p)) 14 t (M 8 (5 * p + lk_at M p n (M 15 t)))) else if M 1 p < M 16 t then mm_rises M t rt else if M 12 t = 0 then (2, mm_fin M t (@ite _ (lk_hk M p n (M 15 t)) (Classical.propDecidable _) (M 8 (5 * p + lk_at M p n (M 15 t))) (-1))) else (0, lk_st M 13 t 1))
set_option maxRecDepth 20000 in
theorem c_MO_searches (l : Launch) (D : va_G) (τ : Nat → ClassId) (ad : Nat → Nat) (M : lk_M) (t p n v rt : Nat) (ht : t < 4) (hp : p < 24) (hpl : M 14 t = nI p) (hrt : rt < 24) (hr0 : M 24 0 = nI rt) (hok : ¬ lk_lost M t p → M 5 p = nI n ∧ n ≤ 4 ∧ M 1 p = nI v ∧ v ≤ 23) : lk_Ci l D τ 25 ad (lk_me τ ad) y_MO_searches b_MO_searches 3 (.int) 3 66 [.ref (ad 0), .int (nI t)] M (fun r M1 => r = (mm_searches M t p n v rt).1 ∧ M1 = (mm_searches M t p n v rt).2) := by
  refine lk_openi (by decide +kernel) (Nat.le_of_ble_eq_true rfl) ?_
  intro pg en s m args below meth cd ls A X h hA hl
  obtain ⟨hx, hb, -⟩ := id X
  have hl : lv_has ls 3 [(0, .ref (ad 0)), (1, .int (nI t))] := hl
  refine lv_aload_n hx hb d_MO_searches_0 rfl (lv_at hl 0 rfl) ?_
  refine mo_get X rfl h 17 (by decide) rfl gf_MO_53 rfl d_MO_searches_1 ?_
  refine lv_iload_n hx hb d_MO_searches_4 rfl (lv_at hl 1 rfl) ?_
  refine mo_ald X h 14 4 rfl (by decide) (j := t) (by omega) (by decide) d_MO_searches_5 ?_
  refine lk_top (nI p) (hpl) ?_
  refine lv_istore_n hx hb d_MO_searches_6 rfl hl (by decide) rfl (fun ls hl => ?_)
  have hl : lv_has ls 3 [(2, .int (nI p)), (0, .ref (ad 0)), (1, .int (nI t))] := hl
  refine lv_aload_n hx hb d_MO_searches_7 rfl (lv_at hl 1 rfl) ?_
  refine mo_get X rfl h 15 (by decide) rfl gf_MO_47 rfl d_MO_searches_8 ?_
  refine lv_iload_n hx hb d_MO_searches_11 rfl (lv_at hl 2 rfl) ?_
  refine mo_ald X h 12 4 rfl (by decide) (j := t) (by omega) (by decide) d_MO_searches_12 ?_
  refine lv_iconst (v := 3) hx hb d_MO_searches_13 (by decide) ?_
  refine lv_icmp_ne (tgt := 34) hx hb d_MO_searches_14 (by decide) (fun h14 => ?_) (fun h14 => ?_)
  · refine lv_aload_n hx hb d_MO_searches_34 rfl (lv_at hl 1 rfl) ?_
    refine lv_iload_n hx hb d_MO_searches_35 rfl (lv_at hl 2 rfl) ?_
    refine lk_goi (lk_runV (As := [.int (nI t)]) (C := R_MO) X h (c_MO_isLost l D τ ad M t p ht hp hpl) ⟨gc_MO_isLost, gm_MO_129, gn_MO, gd_MO_isLost, by decide, by decide⟩ gi_MO_isLost gs_MO_isLost ⟨0, 4, _, _, _, lk_w_get (by decide), rfl⟩ rfl hl.1 (Nat.le_of_ble_eq_true rfl) d_MO_searches_36 ⟨Nat.zero_le _, Nat.zero_le _⟩) h hA (fun r36 σ36 H locs hk9 h => ?_)
    obtain ⟨hk9, hm9⟩ := hk9
    rw [hm9] at h
    rcases hk9 with ⟨e9, hT39⟩ | ⟨e9, hT39⟩
    · rw [e9]
      refine lv_if_eq (tgt := 48) hx hb d_MO_searches_39 (by decide) (fun z => absurd z (by decide)) (fun _ => ?_)
      refine lv_aload_n hx hb d_MO_searches_42 rfl (lv_at hl 1 rfl) ?_
      refine lv_iload_n hx hb d_MO_searches_43 rfl (lv_at hl 2 rfl) ?_
      refine lk_goi (lk_runV (As := [.int (nI t)]) (C := R_MO) X h (c_MO_restart l D τ ad M t ht) ⟨gc_MO_restart, gm_MO_132, gn_MO, gd_MO_restart, by decide, by decide⟩ gi_MO_restart gs_MO_restart ⟨0, 4, _, _, _, lk_w_get (by decide), rfl⟩ rfl hl.1 (Nat.le_of_ble_eq_true rfl) d_MO_searches_44 ⟨Nat.zero_le _, Nat.zero_le _⟩) h hA (fun r44 σ44 H locs hk9 h => ?_)
      rw [hk9.2] at h
      rw [hk9.1]
      exact lk_reti X h d_MO_searches_47 (by rw [mm_searches, if_neg (fun z => h14 z.1), if_pos hT39]; exact ⟨rfl, rfl⟩)
    · rw [e9]
      refine lv_if_eq (tgt := 48) hx hb d_MO_searches_39 (by decide) (fun _ => ?_) (fun z => absurd z (by decide))
      obtain ⟨hc, hn, hl1, hv⟩ := hok hT39
      refine lv_aload_n hx hb d_MO_searches_48 rfl (lv_at hl 1 rfl) ?_
      refine mo_get X rfl h 4 (by decide) rfl gf_MO_19 rfl d_MO_searches_49 ?_
      refine lv_iload_n hx hb d_MO_searches_52 rfl (lv_at hl 0 rfl) ?_
      refine mo_ald X h 3 24 rfl (by decide) (j := p) (by omega) (by decide) d_MO_searches_53 ?_
      refine lv_aload_n hx hb d_MO_searches_54 rfl (lv_at hl 1 rfl) ?_
      refine mo_get X rfl h 18 (by decide) rfl gf_MO_56 rfl d_MO_searches_55 ?_
      refine lv_iload_n hx hb d_MO_searches_58 rfl (lv_at hl 2 rfl) ?_
      refine mo_ald X h 15 4 rfl (by decide) (j := t) (by omega) (by decide) d_MO_searches_59 ?_
      refine lv_icmp_ge (tgt := 71) hx hb d_MO_searches_60 (by decide) (fun h60 => ?_) (fun h60 => ?_)
      · refine lv_aload_n hx hb d_MO_searches_71 rfl (lv_at hl 1 rfl) ?_
        refine mo_get X rfl h 2 (by decide) rfl gf_MO_13 rfl d_MO_searches_72 ?_
        refine lv_iload_n hx hb d_MO_searches_75 rfl (lv_at hl 0 rfl) ?_
        refine mo_ald X h 1 24 rfl (by decide) (j := p) (by omega) (by decide) d_MO_searches_76 ?_
        refine lv_aload_n hx hb d_MO_searches_77 rfl (lv_at hl 1 rfl) ?_
        refine mo_get X rfl h 19 (by decide) rfl gf_MO_59 rfl d_MO_searches_78 ?_
        refine lv_iload_n hx hb d_MO_searches_81 rfl (lv_at hl 2 rfl) ?_
        refine mo_ald X h 16 4 rfl (by decide) (j := t) (by omega) (by decide) d_MO_searches_82 ?_
        refine lv_icmp_le (tgt := 132) hx hb d_MO_searches_83 (by decide) (fun h83 => ?_) (fun h83 => ?_)
        · refine lv_aload_n hx hb d_MO_searches_132 rfl (lv_at hl 1 rfl) ?_
          refine mo_get X rfl h 2 (by decide) rfl gf_MO_13 rfl d_MO_searches_133 ?_
          refine lv_iload_n hx hb d_MO_searches_136 rfl (lv_at hl 0 rfl) ?_
          refine mo_ald X h 1 24 rfl (by decide) (j := p) (by omega) (by decide) d_MO_searches_137 ?_
          refine lv_aload_n hx hb d_MO_searches_138 rfl (lv_at hl 1 rfl) ?_
          refine mo_get X rfl h 19 (by decide) rfl gf_MO_59 rfl d_MO_searches_139 ?_
          refine lv_iload_n hx hb d_MO_searches_142 rfl (lv_at hl 2 rfl) ?_
          refine mo_ald X h 16 4 rfl (by decide) (j := t) (by omega) (by decide) d_MO_searches_143 ?_
          refine lv_icmp_ge (tgt := 153) hx hb d_MO_searches_144 (by decide) (fun h144 => ?_) (fun h144 => ?_)
          · refine lv_aload_n hx hb d_MO_searches_153 rfl (lv_at hl 1 rfl) ?_
            refine mo_get X rfl h 15 (by decide) rfl gf_MO_47 rfl d_MO_searches_154 ?_
            refine lv_iload_n hx hb d_MO_searches_157 rfl (lv_at hl 2 rfl) ?_
            refine mo_ald X h 12 4 rfl (by decide) (j := t) (by omega) (by decide) d_MO_searches_158 ?_
            refine lv_if_ne (tgt := 206) hx hb d_MO_searches_159 (by decide) (fun h159 => ?_) (fun h159 => ?_)
            · refine lv_aload_n hx hb d_MO_searches_206 rfl (lv_at hl 1 rfl) ?_
              refine mo_get X rfl h 16 (by decide) rfl gf_MO_50 rfl d_MO_searches_207 ?_
              refine lv_iload_n hx hb d_MO_searches_210 rfl (lv_at hl 2 rfl) ?_
              refine lv_iconst (v := 1) hx hb d_MO_searches_211 (by decide) ?_
              refine mo_ast X h 13 4 rfl (by decide) (j := t) (v := 1) (by omega) (by decide) d_MO_searches_212 (fun H locs h => ?_)
              refine lv_iconst (v := 0) hx hb d_MO_searches_213 (by decide) ?_
              exact lk_reti X h d_MO_searches_214 (by rw [mm_searches, if_neg (fun z => h14 z.1), if_neg hT39, if_neg (Int32.not_lt.mpr h60), if_neg (Int32.not_lt.mpr h83), if_neg (Int32.not_lt.mpr h144), if_neg h159]; exact ⟨rfl, rfl⟩)
            · have hle := lk_at_le M p n (M 15 t)
              refine lv_aload_n hx hb d_MO_searches_162 rfl (lv_at hl 1 rfl) ?_
              refine lv_iload_n hx hb d_MO_searches_163 rfl (lv_at hl 2 rfl) ?_
              refine lv_aload_n hx hb d_MO_searches_164 rfl (lv_at hl 1 rfl) ?_
              refine lv_iload_n hx hb d_MO_searches_165 rfl (lv_at hl 0 rfl) ?_
              refine lv_aload_n hx hb d_MO_searches_166 rfl (lv_at hl 1 rfl) ?_
              refine mo_get X rfl h 18 (by decide) rfl gf_MO_56 rfl d_MO_searches_167 ?_
              refine lv_iload_n hx hb d_MO_searches_170 rfl (lv_at hl 2 rfl) ?_
              refine mo_ald X h 15 4 rfl (by decide) (j := t) (by omega) (by decide) d_MO_searches_171 ?_
              refine lk_goi (lk_runV (As := [.int (nI p), .int (M 15 t)]) (C := R_MO) X h (c_MO_has l D τ ad M p n hp hc (by omega) (M 15 t)) ⟨gc_MO_has, gm_MO_142, gn_MO, gd_MO_has, by decide, by decide⟩ gi_MO_has gs_MO_has ⟨0, 4, _, _, _, lk_w_get (by decide), rfl⟩ rfl hl.1 (Nat.le_of_ble_eq_true rfl) d_MO_searches_172 ⟨Nat.zero_le _, Nat.zero_le _⟩) h hA (fun r172 σ172 H locs hk9 h => ?_)
              obtain ⟨hk9, hm9⟩ := hk9
              rw [hm9] at h
              rcases hk9 with ⟨e9, hT175⟩ | ⟨e9, hT175⟩
              · rw [e9]
                refine lv_if_eq (tgt := 201) hx hb d_MO_searches_175 (by decide) (fun z => absurd z (by decide)) (fun _ => ?_)
                refine lv_aload_n hx hb d_MO_searches_178 rfl (lv_at hl 1 rfl) ?_
                refine mo_get X rfl h 9 (by decide) rfl gf_MO_34 rfl d_MO_searches_179 ?_
                refine lv_iconst (v := nI 5) hx hb d_MO_searches_182 (by decide) ?_
                refine lv_iload_n hx hb d_MO_searches_183 rfl (lv_at hl 0 rfl) ?_
                refine lk_imulN hx hb d_MO_searches_184 ?_
                refine lv_aload_n hx hb d_MO_searches_185 rfl (lv_at hl 1 rfl) ?_
                refine lv_iload_n hx hb d_MO_searches_186 rfl (lv_at hl 0 rfl) ?_
                refine lv_aload_n hx hb d_MO_searches_187 rfl (lv_at hl 1 rfl) ?_
                refine mo_get X rfl h 18 (by decide) rfl gf_MO_56 rfl d_MO_searches_188 ?_
                refine lv_iload_n hx hb d_MO_searches_191 rfl (lv_at hl 2 rfl) ?_
                refine mo_ald X h 15 4 rfl (by decide) (j := t) (by omega) (by decide) d_MO_searches_192 ?_
                refine lk_goi (lk_runV (As := [.int (nI p), .int (M 15 t)]) (C := R_MO) X h (c_MO_from l D τ ad M p n hp hc (by omega) (M 15 t)) ⟨gc_MO_from, gm_MO_87, gn_MO, gd_MO_from, by decide, by decide⟩ gi_MO_from gs_MO_from ⟨0, 4, _, _, _, lk_w_get (by decide), rfl⟩ rfl hl.1 (Nat.le_of_ble_eq_true rfl) d_MO_searches_193 ⟨Nat.zero_le _, Nat.zero_le _⟩) h hA (fun r193 σ193 H locs hk9 h => ?_)
                rw [hk9.2] at h
                rw [hk9.1]
                refine lk_iaddN hx hb d_MO_searches_196 ?_
                refine mo_ald X h 8 120 rfl (by decide) (j := 5 * p + lk_at M p n (M 15 t)) (by omega) (by decide) d_MO_searches_197 ?_
                refine lv_goto (tgt := 202) hx hb d_MO_searches_198 (by decide) ?_
                refine lk_goi (lk_runV (As := [.int (nI t), .int (M 8 (5 * p + lk_at M p n (M 15 t)))]) (C := R_MO) X h (c_MO_finish l D τ ad _ t ht _) ⟨gc_MO_finish, gm_MO_126, gn_MO, gd_MO_finish, by decide, by decide⟩ gi_MO_finish gs_MO_finish ⟨0, 4, _, _, _, lk_w_get (by decide), rfl⟩ rfl hl.1 (Nat.le_of_ble_eq_true rfl) d_MO_searches_202 ⟨Nat.zero_le _, Nat.zero_le _⟩) h hA (fun r202 σ202 H locs hk9 h => ?_)
                rw [hk9.2] at h
                rw [hk9.1]
                exact lk_reti X h d_MO_searches_205 (by rw [mm_searches, if_neg (fun z => h14 z.1), if_neg hT39, if_neg (Int32.not_lt.mpr h60), if_neg (Int32.not_lt.mpr h83), if_neg (Int32.not_lt.mpr h144), if_pos h159, if_pos hT175]; exact ⟨rfl, rfl⟩)
              · rw [e9]
                refine lv_if_eq (tgt := 201) hx hb d_MO_searches_175 (by decide) (fun _ => ?_) (fun z => absurd z (by decide))
                refine lv_iconst (v := (-1)) hx hb d_MO_searches_201 (by decide) ?_
                refine lk_goi (lk_runV (As := [.int (nI t), .int (-1)]) (C := R_MO) X h (c_MO_finish l D τ ad _ t ht (-1)) ⟨gc_MO_finish, gm_MO_126, gn_MO, gd_MO_finish, by decide, by decide⟩ gi_MO_finish gs_MO_finish ⟨0, 4, _, _, _, lk_w_get (by decide), rfl⟩ rfl hl.1 (Nat.le_of_ble_eq_true rfl) d_MO_searches_202 ⟨Nat.zero_le _, Nat.zero_le _⟩) h hA (fun r202 σ202 H locs hk9 h => ?_)
                rw [hk9.2] at h
                rw [hk9.1]
                exact lk_reti X h d_MO_searches_205 (by rw [mm_searches, if_neg (fun z => h14 z.1), if_neg hT39, if_neg (Int32.not_lt.mpr h60), if_neg (Int32.not_lt.mpr h83), if_neg (Int32.not_lt.mpr h144), if_pos h159, if_neg hT175]; exact ⟨rfl, rfl⟩)
          · refine lv_aload_n hx hb d_MO_searches_147 rfl (lv_at hl 1 rfl) ?_
            refine lv_iload_n hx hb d_MO_searches_148 rfl (lv_at hl 2 rfl) ?_
            refine lk_goi (lk_runV (As := [.int (nI t)]) (C := R_MO) X h (c_MO_rises l D τ ad M t rt ht hrt hr0) ⟨gc_MO_rises, gm_MO_139, gn_MO, gd_MO_rises, by decide, by decide⟩ gi_MO_rises gs_MO_rises ⟨0, 4, _, _, _, lk_w_get (by decide), rfl⟩ rfl hl.1 (Nat.le_of_ble_eq_true rfl) d_MO_searches_149 ⟨Nat.zero_le _, Nat.zero_le _⟩) h hA (fun r149 σ149 H locs hk9 h => ?_)
            rw [hk9.2] at h
            rw [hk9.1]
            exact lk_reti X h d_MO_searches_152 (by rw [mm_searches, if_neg (fun z => h14 z.1), if_neg hT39, if_neg (Int32.not_lt.mpr h60), if_neg (Int32.not_lt.mpr h83), if_pos (Int32.not_le.mp h144)]; exact ⟨rfl, rfl⟩)
        · have hle := lk_at_le M p n (M 15 t)
          refine lv_aload_n hx hb d_MO_searches_86 rfl (lv_at hl 1 rfl) ?_
          refine mo_get X rfl h 22 (by decide) rfl gf_MO_68 rfl d_MO_searches_87 ?_
          refine lv_bipush (v := nI 32) hx hb d_MO_searches_90 (by decide) ?_
          refine lv_iload_n hx hb d_MO_searches_92 rfl (lv_at hl 2 rfl) ?_
          refine lk_imulN hx hb d_MO_searches_93 ?_
          refine lv_aload_n hx hb d_MO_searches_94 rfl (lv_at hl 1 rfl) ?_
          refine mo_get X rfl h 2 (by decide) rfl gf_MO_13 rfl d_MO_searches_95 ?_
          refine lv_iload_n hx hb d_MO_searches_98 rfl (lv_at hl 0 rfl) ?_
          refine mo_ald X h 1 24 rfl (by decide) (j := p) (by omega) (by decide) d_MO_searches_99 ?_
          refine lk_top (nI v) (hl1) ?_
          refine lk_iaddN hx hb d_MO_searches_100 ?_
          refine lv_iload_n hx hb d_MO_searches_101 rfl (lv_at hl 0 rfl) ?_
          refine mo_ast X h 19 128 rfl (by decide) (j := 32 * t + v) (v := nI p) (by omega) (by decide) d_MO_searches_102 (fun H locs h => ?_)
          refine lv_aload_n hx hb d_MO_searches_103 rfl (lv_at hl 1 rfl) ?_
          refine mo_get X rfl h 17 (by decide) rfl gf_MO_53 rfl d_MO_searches_104 ?_
          refine lv_iload_n hx hb d_MO_searches_107 rfl (lv_at hl 2 rfl) ?_
          refine lv_aload_n hx hb d_MO_searches_108 rfl (lv_at hl 1 rfl) ?_
          refine mo_get X rfl h 9 (by decide) rfl gf_MO_34 rfl d_MO_searches_109 ?_
          refine lv_iconst (v := nI 5) hx hb d_MO_searches_112 (by decide) ?_
          refine lv_iload_n hx hb d_MO_searches_113 rfl (lv_at hl 0 rfl) ?_
          refine lk_imulN hx hb d_MO_searches_114 ?_
          refine lv_aload_n hx hb d_MO_searches_115 rfl (lv_at hl 1 rfl) ?_
          refine lv_iload_n hx hb d_MO_searches_116 rfl (lv_at hl 0 rfl) ?_
          refine lv_aload_n hx hb d_MO_searches_117 rfl (lv_at hl 1 rfl) ?_
          refine mo_get X rfl h 18 (by decide) rfl gf_MO_56 rfl d_MO_searches_118 ?_
          refine lv_iload_n hx hb d_MO_searches_121 rfl (lv_at hl 2 rfl) ?_
          refine mo_ald X h 15 4 rfl (by decide) (j := t) (by omega) (by decide) d_MO_searches_122 ?_
          refine lk_top (M 15 t) (lk_st_f (by decide)) ?_
          refine lk_goi (lk_runV (As := [.int (nI p), .int (M 15 t)]) (C := R_MO) X h (c_MO_from l D τ ad _ p n hp ((lk_st_f (by decide)).trans hc) (by omega) (M 15 t)) ⟨gc_MO_from, gm_MO_87, gn_MO, gd_MO_from, by decide, by decide⟩ gi_MO_from gs_MO_from ⟨0, 4, _, _, _, lk_w_get (by decide), rfl⟩ rfl hl.1 (Nat.le_of_ble_eq_true rfl) d_MO_searches_123 ⟨Nat.zero_le _, Nat.zero_le _⟩) h hA (fun r123 σ123 H locs hk9 h => ?_)
          rw [hk9.2] at h
          rw [hk9.1, show lk_at (lk_st M 19 (32 * t + v) (nI p)) p n (M 15 t) = lk_at M p n (M 15 t) from rfl]
          refine lk_iaddN hx hb d_MO_searches_126 ?_
          refine mo_ald X h 8 120 rfl (by decide) (j := 5 * p + lk_at M p n (M 15 t)) (by omega) (by decide) d_MO_searches_127 ?_
          refine lk_top (M 8 (5 * p + lk_at M p n (M 15 t))) (lk_st_f (by decide)) ?_
          refine mo_ast X h 14 4 rfl (by decide) (j := t) (v := M 8 (5 * p + lk_at M p n (M 15 t))) (by omega) (by decide) d_MO_searches_128 (fun H locs h => ?_)
          refine lv_goto (tgt := 213) hx hb d_MO_searches_129 (by decide) ?_
          refine lv_iconst (v := 0) hx hb d_MO_searches_213 (by decide) ?_
          exact lk_reti X h d_MO_searches_214 (by rw [mm_searches, if_neg (fun z => h14 z.1), if_neg hT39, if_neg (Int32.not_lt.mpr h60), if_pos (Int32.not_le.mp h83)]; exact ⟨rfl, rfl⟩)
      · refine lv_aload_n hx hb d_MO_searches_63 rfl (lv_at hl 1 rfl) ?_
        refine lv_iload_n hx hb d_MO_searches_64 rfl (lv_at hl 2 rfl) ?_
        refine lk_gov (lk_runV (As := [.int (nI t)]) (C := R_MO) X h (c_MO_goRight l D τ ad M t p ht hp hpl) ⟨gc_MO_goRight, gm_MO_136, gn_MO, gd_MO_goRight, by decide, by decide⟩ gi_MO_goRight gs_MO_goRight ⟨0, 4, _, _, _, lk_w_get (by decide), rfl⟩ rfl hl.1 (Nat.le_of_ble_eq_true rfl) d_MO_searches_65 ⟨Nat.zero_le _, Nat.zero_le _⟩) h hA (fun σ65 H locs hk9 h => ?_)
        rw [hk9] at h
        refine lv_goto (tgt := 213) hx hb d_MO_searches_68 (by decide) ?_
        refine lv_iconst (v := 0) hx hb d_MO_searches_213 (by decide) ?_
        exact lk_reti X h d_MO_searches_214 (by rw [mm_searches, if_neg (fun z => h14 z.1), if_neg hT39, if_pos (Int32.not_le.mp h60)]; exact ⟨rfl, rfl⟩)
  · refine lv_aload_n hx hb d_MO_searches_17 rfl (lv_at hl 1 rfl) ?_
    refine mo_get X rfl h 21 (by decide) rfl gf_MO_65 rfl d_MO_searches_18 ?_
    refine lv_iload_n hx hb d_MO_searches_21 rfl (lv_at hl 2 rfl) ?_
    refine mo_ald X h 18 4 rfl (by decide) (j := t) (by omega) (by decide) d_MO_searches_22 ?_
    refine lv_iconst (v := (-1)) hx hb d_MO_searches_23 (by decide) ?_
    refine lv_icmp_ne (tgt := 34) hx hb d_MO_searches_24 (by decide) (fun h24 => ?_) (fun h24 => ?_)
    · refine lv_aload_n hx hb d_MO_searches_34 rfl (lv_at hl 1 rfl) ?_
      refine lv_iload_n hx hb d_MO_searches_35 rfl (lv_at hl 2 rfl) ?_
      refine lk_goi (lk_runV (As := [.int (nI t)]) (C := R_MO) X h (c_MO_isLost l D τ ad M t p ht hp hpl) ⟨gc_MO_isLost, gm_MO_129, gn_MO, gd_MO_isLost, by decide, by decide⟩ gi_MO_isLost gs_MO_isLost ⟨0, 4, _, _, _, lk_w_get (by decide), rfl⟩ rfl hl.1 (Nat.le_of_ble_eq_true rfl) d_MO_searches_36 ⟨Nat.zero_le _, Nat.zero_le _⟩) h hA (fun r36 σ36 H locs hk9 h => ?_)
      obtain ⟨hk9, hm9⟩ := hk9
      rw [hm9] at h
      rcases hk9 with ⟨e9, hT39⟩ | ⟨e9, hT39⟩
      · rw [e9]
        refine lv_if_eq (tgt := 48) hx hb d_MO_searches_39 (by decide) (fun z => absurd z (by decide)) (fun _ => ?_)
        refine lv_aload_n hx hb d_MO_searches_42 rfl (lv_at hl 1 rfl) ?_
        refine lv_iload_n hx hb d_MO_searches_43 rfl (lv_at hl 2 rfl) ?_
        refine lk_goi (lk_runV (As := [.int (nI t)]) (C := R_MO) X h (c_MO_restart l D τ ad M t ht) ⟨gc_MO_restart, gm_MO_132, gn_MO, gd_MO_restart, by decide, by decide⟩ gi_MO_restart gs_MO_restart ⟨0, 4, _, _, _, lk_w_get (by decide), rfl⟩ rfl hl.1 (Nat.le_of_ble_eq_true rfl) d_MO_searches_44 ⟨Nat.zero_le _, Nat.zero_le _⟩) h hA (fun r44 σ44 H locs hk9 h => ?_)
        rw [hk9.2] at h
        rw [hk9.1]
        exact lk_reti X h d_MO_searches_47 (by rw [mm_searches, if_neg (fun z => h24 z.2), if_pos hT39]; exact ⟨rfl, rfl⟩)
      · rw [e9]
        refine lv_if_eq (tgt := 48) hx hb d_MO_searches_39 (by decide) (fun _ => ?_) (fun z => absurd z (by decide))
        obtain ⟨hc, hn, hl1, hv⟩ := hok hT39
        refine lv_aload_n hx hb d_MO_searches_48 rfl (lv_at hl 1 rfl) ?_
        refine mo_get X rfl h 4 (by decide) rfl gf_MO_19 rfl d_MO_searches_49 ?_
        refine lv_iload_n hx hb d_MO_searches_52 rfl (lv_at hl 0 rfl) ?_
        refine mo_ald X h 3 24 rfl (by decide) (j := p) (by omega) (by decide) d_MO_searches_53 ?_
        refine lv_aload_n hx hb d_MO_searches_54 rfl (lv_at hl 1 rfl) ?_
        refine mo_get X rfl h 18 (by decide) rfl gf_MO_56 rfl d_MO_searches_55 ?_
        refine lv_iload_n hx hb d_MO_searches_58 rfl (lv_at hl 2 rfl) ?_
        refine mo_ald X h 15 4 rfl (by decide) (j := t) (by omega) (by decide) d_MO_searches_59 ?_
        refine lv_icmp_ge (tgt := 71) hx hb d_MO_searches_60 (by decide) (fun h60 => ?_) (fun h60 => ?_)
        · refine lv_aload_n hx hb d_MO_searches_71 rfl (lv_at hl 1 rfl) ?_
          refine mo_get X rfl h 2 (by decide) rfl gf_MO_13 rfl d_MO_searches_72 ?_
          refine lv_iload_n hx hb d_MO_searches_75 rfl (lv_at hl 0 rfl) ?_
          refine mo_ald X h 1 24 rfl (by decide) (j := p) (by omega) (by decide) d_MO_searches_76 ?_
          refine lv_aload_n hx hb d_MO_searches_77 rfl (lv_at hl 1 rfl) ?_
          refine mo_get X rfl h 19 (by decide) rfl gf_MO_59 rfl d_MO_searches_78 ?_
          refine lv_iload_n hx hb d_MO_searches_81 rfl (lv_at hl 2 rfl) ?_
          refine mo_ald X h 16 4 rfl (by decide) (j := t) (by omega) (by decide) d_MO_searches_82 ?_
          refine lv_icmp_le (tgt := 132) hx hb d_MO_searches_83 (by decide) (fun h83 => ?_) (fun h83 => ?_)
          · refine lv_aload_n hx hb d_MO_searches_132 rfl (lv_at hl 1 rfl) ?_
            refine mo_get X rfl h 2 (by decide) rfl gf_MO_13 rfl d_MO_searches_133 ?_
            refine lv_iload_n hx hb d_MO_searches_136 rfl (lv_at hl 0 rfl) ?_
            refine mo_ald X h 1 24 rfl (by decide) (j := p) (by omega) (by decide) d_MO_searches_137 ?_
            refine lv_aload_n hx hb d_MO_searches_138 rfl (lv_at hl 1 rfl) ?_
            refine mo_get X rfl h 19 (by decide) rfl gf_MO_59 rfl d_MO_searches_139 ?_
            refine lv_iload_n hx hb d_MO_searches_142 rfl (lv_at hl 2 rfl) ?_
            refine mo_ald X h 16 4 rfl (by decide) (j := t) (by omega) (by decide) d_MO_searches_143 ?_
            refine lv_icmp_ge (tgt := 153) hx hb d_MO_searches_144 (by decide) (fun h144 => ?_) (fun h144 => ?_)
            · refine lv_aload_n hx hb d_MO_searches_153 rfl (lv_at hl 1 rfl) ?_
              refine mo_get X rfl h 15 (by decide) rfl gf_MO_47 rfl d_MO_searches_154 ?_
              refine lv_iload_n hx hb d_MO_searches_157 rfl (lv_at hl 2 rfl) ?_
              refine mo_ald X h 12 4 rfl (by decide) (j := t) (by omega) (by decide) d_MO_searches_158 ?_
              refine lv_if_ne (tgt := 206) hx hb d_MO_searches_159 (by decide) (fun h159 => ?_) (fun h159 => ?_)
              · refine lv_aload_n hx hb d_MO_searches_206 rfl (lv_at hl 1 rfl) ?_
                refine mo_get X rfl h 16 (by decide) rfl gf_MO_50 rfl d_MO_searches_207 ?_
                refine lv_iload_n hx hb d_MO_searches_210 rfl (lv_at hl 2 rfl) ?_
                refine lv_iconst (v := 1) hx hb d_MO_searches_211 (by decide) ?_
                refine mo_ast X h 13 4 rfl (by decide) (j := t) (v := 1) (by omega) (by decide) d_MO_searches_212 (fun H locs h => ?_)
                refine lv_iconst (v := 0) hx hb d_MO_searches_213 (by decide) ?_
                exact lk_reti X h d_MO_searches_214 (by rw [mm_searches, if_neg (fun z => h24 z.2), if_neg hT39, if_neg (Int32.not_lt.mpr h60), if_neg (Int32.not_lt.mpr h83), if_neg (Int32.not_lt.mpr h144), if_neg h159]; exact ⟨rfl, rfl⟩)
              · have hle := lk_at_le M p n (M 15 t)
                refine lv_aload_n hx hb d_MO_searches_162 rfl (lv_at hl 1 rfl) ?_
                refine lv_iload_n hx hb d_MO_searches_163 rfl (lv_at hl 2 rfl) ?_
                refine lv_aload_n hx hb d_MO_searches_164 rfl (lv_at hl 1 rfl) ?_
                refine lv_iload_n hx hb d_MO_searches_165 rfl (lv_at hl 0 rfl) ?_
                refine lv_aload_n hx hb d_MO_searches_166 rfl (lv_at hl 1 rfl) ?_
                refine mo_get X rfl h 18 (by decide) rfl gf_MO_56 rfl d_MO_searches_167 ?_
                refine lv_iload_n hx hb d_MO_searches_170 rfl (lv_at hl 2 rfl) ?_
                refine mo_ald X h 15 4 rfl (by decide) (j := t) (by omega) (by decide) d_MO_searches_171 ?_
                refine lk_goi (lk_runV (As := [.int (nI p), .int (M 15 t)]) (C := R_MO) X h (c_MO_has l D τ ad M p n hp hc (by omega) (M 15 t)) ⟨gc_MO_has, gm_MO_142, gn_MO, gd_MO_has, by decide, by decide⟩ gi_MO_has gs_MO_has ⟨0, 4, _, _, _, lk_w_get (by decide), rfl⟩ rfl hl.1 (Nat.le_of_ble_eq_true rfl) d_MO_searches_172 ⟨Nat.zero_le _, Nat.zero_le _⟩) h hA (fun r172 σ172 H locs hk9 h => ?_)
                obtain ⟨hk9, hm9⟩ := hk9
                rw [hm9] at h
                rcases hk9 with ⟨e9, hT175⟩ | ⟨e9, hT175⟩
                · rw [e9]
                  refine lv_if_eq (tgt := 201) hx hb d_MO_searches_175 (by decide) (fun z => absurd z (by decide)) (fun _ => ?_)
                  refine lv_aload_n hx hb d_MO_searches_178 rfl (lv_at hl 1 rfl) ?_
                  refine mo_get X rfl h 9 (by decide) rfl gf_MO_34 rfl d_MO_searches_179 ?_
                  refine lv_iconst (v := nI 5) hx hb d_MO_searches_182 (by decide) ?_
                  refine lv_iload_n hx hb d_MO_searches_183 rfl (lv_at hl 0 rfl) ?_
                  refine lk_imulN hx hb d_MO_searches_184 ?_
                  refine lv_aload_n hx hb d_MO_searches_185 rfl (lv_at hl 1 rfl) ?_
                  refine lv_iload_n hx hb d_MO_searches_186 rfl (lv_at hl 0 rfl) ?_
                  refine lv_aload_n hx hb d_MO_searches_187 rfl (lv_at hl 1 rfl) ?_
                  refine mo_get X rfl h 18 (by decide) rfl gf_MO_56 rfl d_MO_searches_188 ?_
                  refine lv_iload_n hx hb d_MO_searches_191 rfl (lv_at hl 2 rfl) ?_
                  refine mo_ald X h 15 4 rfl (by decide) (j := t) (by omega) (by decide) d_MO_searches_192 ?_
                  refine lk_goi (lk_runV (As := [.int (nI p), .int (M 15 t)]) (C := R_MO) X h (c_MO_from l D τ ad M p n hp hc (by omega) (M 15 t)) ⟨gc_MO_from, gm_MO_87, gn_MO, gd_MO_from, by decide, by decide⟩ gi_MO_from gs_MO_from ⟨0, 4, _, _, _, lk_w_get (by decide), rfl⟩ rfl hl.1 (Nat.le_of_ble_eq_true rfl) d_MO_searches_193 ⟨Nat.zero_le _, Nat.zero_le _⟩) h hA (fun r193 σ193 H locs hk9 h => ?_)
                  rw [hk9.2] at h
                  rw [hk9.1]
                  refine lk_iaddN hx hb d_MO_searches_196 ?_
                  refine mo_ald X h 8 120 rfl (by decide) (j := 5 * p + lk_at M p n (M 15 t)) (by omega) (by decide) d_MO_searches_197 ?_
                  refine lv_goto (tgt := 202) hx hb d_MO_searches_198 (by decide) ?_
                  refine lk_goi (lk_runV (As := [.int (nI t), .int (M 8 (5 * p + lk_at M p n (M 15 t)))]) (C := R_MO) X h (c_MO_finish l D τ ad _ t ht _) ⟨gc_MO_finish, gm_MO_126, gn_MO, gd_MO_finish, by decide, by decide⟩ gi_MO_finish gs_MO_finish ⟨0, 4, _, _, _, lk_w_get (by decide), rfl⟩ rfl hl.1 (Nat.le_of_ble_eq_true rfl) d_MO_searches_202 ⟨Nat.zero_le _, Nat.zero_le _⟩) h hA (fun r202 σ202 H locs hk9 h => ?_)
                  rw [hk9.2] at h
                  rw [hk9.1]
                  exact lk_reti X h d_MO_searches_205 (by rw [mm_searches, if_neg (fun z => h24 z.2), if_neg hT39, if_neg (Int32.not_lt.mpr h60), if_neg (Int32.not_lt.mpr h83), if_neg (Int32.not_lt.mpr h144), if_pos h159, if_pos hT175]; exact ⟨rfl, rfl⟩)
                · rw [e9]
                  refine lv_if_eq (tgt := 201) hx hb d_MO_searches_175 (by decide) (fun _ => ?_) (fun z => absurd z (by decide))
                  refine lv_iconst (v := (-1)) hx hb d_MO_searches_201 (by decide) ?_
                  refine lk_goi (lk_runV (As := [.int (nI t), .int (-1)]) (C := R_MO) X h (c_MO_finish l D τ ad _ t ht (-1)) ⟨gc_MO_finish, gm_MO_126, gn_MO, gd_MO_finish, by decide, by decide⟩ gi_MO_finish gs_MO_finish ⟨0, 4, _, _, _, lk_w_get (by decide), rfl⟩ rfl hl.1 (Nat.le_of_ble_eq_true rfl) d_MO_searches_202 ⟨Nat.zero_le _, Nat.zero_le _⟩) h hA (fun r202 σ202 H locs hk9 h => ?_)
                  rw [hk9.2] at h
                  rw [hk9.1]
                  exact lk_reti X h d_MO_searches_205 (by rw [mm_searches, if_neg (fun z => h24 z.2), if_neg hT39, if_neg (Int32.not_lt.mpr h60), if_neg (Int32.not_lt.mpr h83), if_neg (Int32.not_lt.mpr h144), if_pos h159, if_neg hT175]; exact ⟨rfl, rfl⟩)
            · refine lv_aload_n hx hb d_MO_searches_147 rfl (lv_at hl 1 rfl) ?_
              refine lv_iload_n hx hb d_MO_searches_148 rfl (lv_at hl 2 rfl) ?_
              refine lk_goi (lk_runV (As := [.int (nI t)]) (C := R_MO) X h (c_MO_rises l D τ ad M t rt ht hrt hr0) ⟨gc_MO_rises, gm_MO_139, gn_MO, gd_MO_rises, by decide, by decide⟩ gi_MO_rises gs_MO_rises ⟨0, 4, _, _, _, lk_w_get (by decide), rfl⟩ rfl hl.1 (Nat.le_of_ble_eq_true rfl) d_MO_searches_149 ⟨Nat.zero_le _, Nat.zero_le _⟩) h hA (fun r149 σ149 H locs hk9 h => ?_)
              rw [hk9.2] at h
              rw [hk9.1]
              exact lk_reti X h d_MO_searches_152 (by rw [mm_searches, if_neg (fun z => h24 z.2), if_neg hT39, if_neg (Int32.not_lt.mpr h60), if_neg (Int32.not_lt.mpr h83), if_pos (Int32.not_le.mp h144)]; exact ⟨rfl, rfl⟩)
          · have hle := lk_at_le M p n (M 15 t)
            refine lv_aload_n hx hb d_MO_searches_86 rfl (lv_at hl 1 rfl) ?_
            refine mo_get X rfl h 22 (by decide) rfl gf_MO_68 rfl d_MO_searches_87 ?_
            refine lv_bipush (v := nI 32) hx hb d_MO_searches_90 (by decide) ?_
            refine lv_iload_n hx hb d_MO_searches_92 rfl (lv_at hl 2 rfl) ?_
            refine lk_imulN hx hb d_MO_searches_93 ?_
            refine lv_aload_n hx hb d_MO_searches_94 rfl (lv_at hl 1 rfl) ?_
            refine mo_get X rfl h 2 (by decide) rfl gf_MO_13 rfl d_MO_searches_95 ?_
            refine lv_iload_n hx hb d_MO_searches_98 rfl (lv_at hl 0 rfl) ?_
            refine mo_ald X h 1 24 rfl (by decide) (j := p) (by omega) (by decide) d_MO_searches_99 ?_
            refine lk_top (nI v) (hl1) ?_
            refine lk_iaddN hx hb d_MO_searches_100 ?_
            refine lv_iload_n hx hb d_MO_searches_101 rfl (lv_at hl 0 rfl) ?_
            refine mo_ast X h 19 128 rfl (by decide) (j := 32 * t + v) (v := nI p) (by omega) (by decide) d_MO_searches_102 (fun H locs h => ?_)
            refine lv_aload_n hx hb d_MO_searches_103 rfl (lv_at hl 1 rfl) ?_
            refine mo_get X rfl h 17 (by decide) rfl gf_MO_53 rfl d_MO_searches_104 ?_
            refine lv_iload_n hx hb d_MO_searches_107 rfl (lv_at hl 2 rfl) ?_
            refine lv_aload_n hx hb d_MO_searches_108 rfl (lv_at hl 1 rfl) ?_
            refine mo_get X rfl h 9 (by decide) rfl gf_MO_34 rfl d_MO_searches_109 ?_
            refine lv_iconst (v := nI 5) hx hb d_MO_searches_112 (by decide) ?_
            refine lv_iload_n hx hb d_MO_searches_113 rfl (lv_at hl 0 rfl) ?_
            refine lk_imulN hx hb d_MO_searches_114 ?_
            refine lv_aload_n hx hb d_MO_searches_115 rfl (lv_at hl 1 rfl) ?_
            refine lv_iload_n hx hb d_MO_searches_116 rfl (lv_at hl 0 rfl) ?_
            refine lv_aload_n hx hb d_MO_searches_117 rfl (lv_at hl 1 rfl) ?_
            refine mo_get X rfl h 18 (by decide) rfl gf_MO_56 rfl d_MO_searches_118 ?_
            refine lv_iload_n hx hb d_MO_searches_121 rfl (lv_at hl 2 rfl) ?_
            refine mo_ald X h 15 4 rfl (by decide) (j := t) (by omega) (by decide) d_MO_searches_122 ?_
            refine lk_top (M 15 t) (lk_st_f (by decide)) ?_
            refine lk_goi (lk_runV (As := [.int (nI p), .int (M 15 t)]) (C := R_MO) X h (c_MO_from l D τ ad _ p n hp ((lk_st_f (by decide)).trans hc) (by omega) (M 15 t)) ⟨gc_MO_from, gm_MO_87, gn_MO, gd_MO_from, by decide, by decide⟩ gi_MO_from gs_MO_from ⟨0, 4, _, _, _, lk_w_get (by decide), rfl⟩ rfl hl.1 (Nat.le_of_ble_eq_true rfl) d_MO_searches_123 ⟨Nat.zero_le _, Nat.zero_le _⟩) h hA (fun r123 σ123 H locs hk9 h => ?_)
            rw [hk9.2] at h
            rw [hk9.1, show lk_at (lk_st M 19 (32 * t + v) (nI p)) p n (M 15 t) = lk_at M p n (M 15 t) from rfl]
            refine lk_iaddN hx hb d_MO_searches_126 ?_
            refine mo_ald X h 8 120 rfl (by decide) (j := 5 * p + lk_at M p n (M 15 t)) (by omega) (by decide) d_MO_searches_127 ?_
            refine lk_top (M 8 (5 * p + lk_at M p n (M 15 t))) (lk_st_f (by decide)) ?_
            refine mo_ast X h 14 4 rfl (by decide) (j := t) (v := M 8 (5 * p + lk_at M p n (M 15 t))) (by omega) (by decide) d_MO_searches_128 (fun H locs h => ?_)
            refine lv_goto (tgt := 213) hx hb d_MO_searches_129 (by decide) ?_
            refine lv_iconst (v := 0) hx hb d_MO_searches_213 (by decide) ?_
            exact lk_reti X h d_MO_searches_214 (by rw [mm_searches, if_neg (fun z => h24 z.2), if_neg hT39, if_neg (Int32.not_lt.mpr h60), if_pos (Int32.not_le.mp h83)]; exact ⟨rfl, rfl⟩)
        · refine lv_aload_n hx hb d_MO_searches_63 rfl (lv_at hl 1 rfl) ?_
          refine lv_iload_n hx hb d_MO_searches_64 rfl (lv_at hl 2 rfl) ?_
          refine lk_gov (lk_runV (As := [.int (nI t)]) (C := R_MO) X h (c_MO_goRight l D τ ad M t p ht hp hpl) ⟨gc_MO_goRight, gm_MO_136, gn_MO, gd_MO_goRight, by decide, by decide⟩ gi_MO_goRight gs_MO_goRight ⟨0, 4, _, _, _, lk_w_get (by decide), rfl⟩ rfl hl.1 (Nat.le_of_ble_eq_true rfl) d_MO_searches_65 ⟨Nat.zero_le _, Nat.zero_le _⟩) h hA (fun σ65 H locs hk9 h => ?_)
          rw [hk9] at h
          refine lv_goto (tgt := 213) hx hb d_MO_searches_68 (by decide) ?_
          refine lv_iconst (v := 0) hx hb d_MO_searches_213 (by decide) ?_
          exact lk_reti X h d_MO_searches_214 (by rw [mm_searches, if_neg (fun z => h24 z.2), if_neg hT39, if_pos (Int32.not_le.mp h60)]; exact ⟨rfl, rfl⟩)
    · refine lv_aload_n hx hb d_MO_searches_27 rfl (lv_at hl 1 rfl) ?_
      refine lv_iload_n hx hb d_MO_searches_28 rfl (lv_at hl 2 rfl) ?_
      refine lv_iconst (v := 0) hx hb d_MO_searches_29 (by decide) ?_
      refine lk_goi (lk_runV (As := [.int (nI t), .int 0]) (C := R_MO) X h (c_MO_finish l D τ ad _ t ht 0) ⟨gc_MO_finish, gm_MO_126, gn_MO, gd_MO_finish, by decide, by decide⟩ gi_MO_finish gs_MO_finish ⟨0, 4, _, _, _, lk_w_get (by decide), rfl⟩ rfl hl.1 (Nat.le_of_ble_eq_true rfl) d_MO_searches_30 ⟨Nat.zero_le _, Nat.zero_le _⟩) h hA (fun r30 σ30 H locs hk9 h => ?_)
      rw [hk9.2] at h
      rw [hk9.1]
      exact lk_reti X h d_MO_searches_33 (by rw [mm_searches, if_pos ⟨h14, h24⟩]; exact ⟨rfl, rfl⟩)
end
section
theorem lk_idivN {p : Program} {l : Launch} {e : Env} {R : Room} {s : State} {m : MethodId} {args : Array Value} {below : List Frame} {meth : Method} {c : Code} {H : Heap} {locs : List Loc} {cells slots : Nat} {Q : State → Prop} {cc : ByteArray} {pc : Nat} {ls : Array Slot} {rest : List Value} (hexec : p.tables.exec = Jvm.exec) (hb : c.code = cc) {x y : Nat} (h1 : x < 2 ^ 31) (h2 : 0 < y) (h3 : y < 2 ^ 31) (hdg : decode cc pc = .ok (.idiv, 1)) (k : W p l e R s m args below meth c H locs cells slots Q (F0 m (pc + 1) ls (.int (nI (x / y)) :: rest))) : W p l e R s m args below meth c H locs cells slots Q (F0 m pc ls (.int (nI y) :: .int (nI x) :: rest)) :=
  lv_idiv hexec hb hdg (nI_ne0 h2 h3) (by rw [pk_div h1 h2 h3]; exact k)
/-- the first entry of b goes behind a's, r times; a's last entry goes before b's, r times -/
def lk_mvF (a b : Nat) : Nat → Nat → Nat → lk_M → lk_M
  | 0, _, _, σ => σ
  | r + 1, na, nb, σ => lk_mvF a b r (na + 1) (nb - 1) (lk_del (lk_ins σ a na na (σ 7 (5 * b)) (σ 8 (5 * b))) b 0 nb)
def lk_mvL (a b : Nat) : Nat → Nat → Nat → lk_M → lk_M
  | 0, _, _, σ => σ
  | r + 1, na, nb, σ => lk_mvL a b r (na - 1) (nb + 1) (lk_st (lk_ins σ b 0 nb (σ 7 (5 * a + na - 1)) (σ 8 (5 * a + na - 1))) 5 a (nI (na - 1)))
theorem lk_mvF_5 (a b : Nat) (hab : a ≠ b) : ∀ (r na nb : Nat) (σ : lk_M), r ≤ nb → σ 5 a = nI na → σ 5 b = nI nb → lk_mvF a b r na nb σ 5 a = nI (na + r) ∧ lk_mvF a b r na nb σ 5 b = nI (nb - r) := by
  intro r
  induction r with
  | zero => intro na nb σ _ h1 h2; exact ⟨h1, h2⟩
  | succ r ih =>
    intro na nb σ hr h1 h2
    obtain ⟨q1, q2⟩ := ih (na + 1) (nb - 1) (lk_del (lk_ins σ a na na (σ 7 (5 * b)) (σ 8 (5 * b))) b 0 nb) (by omega) (by rw [lk_del_5, if_neg hab, lk_ins_5, if_pos rfl]) (by rw [lk_del_5, if_pos rfl])
    refine ⟨?_, ?_⟩
    · show lk_mvF a b r (na + 1) (nb - 1) _ 5 a = _
      rw [q1, show na + 1 + r = na + (r + 1) by omega]
    · show lk_mvF a b r (na + 1) (nb - 1) _ 5 b = _
      rw [q2, show nb - 1 - r = nb - (r + 1) by omega]
/-- what balance does to the entries, then the bounds -/
def lk_shr (σ : lk_M) (a b na nb : Nat) : lk_M := lk_mvL a b (na - (na + nb + 1) / 2) (na + ((na + nb + 1) / 2 - na)) (nb - ((na + nb + 1) / 2 - na)) (lk_mvF a b ((na + nb + 1) / 2 - na) na nb σ)
def mm_bal (σ : lk_M) (a b na nb : Nat) : lk_M := lk_st (lk_st (lk_shr σ a b na nb) 3 a (lk_shr σ a b na nb 7 (5 * a + (na + nb + 1) / 2 - 1))) 2 b (lk_shr σ a b na nb 7 (5 * a + (na + nb + 1) / 2 - 1))
section
variable {pg : Program} {l : Launch} {en : Env} {R : Room} {s : State} {m : MethodId} {args : Array Value} {below : List Frame} {meth : Method} {cd : Code} {H : Heap} {locs : List Loc} {cells slots : Nat} {Q : State → Prop} {D : va_G} {τ : Nat → ClassId} {ad : Nat → Nat} {A : Nat → Prop} {H0 : Heap} {M : lk_M}
theorem w_MO_bal1 (X : lk_X pg s m args meth cd y_MO_balance b_MO_balance 5 (none) D τ) (hA : ∀ q, H0.size ≤ q → A q) (hR : 1 ≤ R.frames ∧ 25 ≤ R.locals) {a b half : Nat} (ha : a < 24) (hb2 : b < 24) (hab : a ≠ b) (hh : half ≤ 5) : ∀ (r na nb : Nat) (M : lk_M), na + r = half → r ≤ nb → nb ≤ 5 → M 5 a = nI na → M 5 b = nI nb → ∀ (H : Heap) (locs : List Loc) (ls : Array Slot), lk_H D lk_cl A H0 (lk_w 25 ad (lk_me τ ad M)) H locs → lv_has ls 5 [(3, .int (nI half)), (0, .ref (ad 0)), (1, .int (nI a)), (2, .int (nI b))] → (∀ (H : Heap) (locs : List Loc) (ls : Array Slot), lk_H D lk_cl A H0 (lk_w 25 ad (lk_me τ ad (lk_mvF a b r na nb M))) H locs → lv_has ls 5 [(3, .int (nI half)), (0, .ref (ad 0)), (1, .int (nI a)), (2, .int (nI b))] → W pg l en R s m args below meth cd H locs 0 0 Q (F0 m 58 ls [])) → W pg l en R s m args below meth cd H locs 0 0 Q (F0 m 18 ls []) := by
  obtain ⟨hx, hb, -⟩ := id X
  intro r
  induction r with
  | zero =>
    intro na nb M hr hrb hnb h5a h5b H locs ls h hl kk
    refine lv_aload_n hx hb d_MO_balance_18 rfl (lv_at hl 1 rfl) ?_
    refine mo_get X rfl h 6 (by decide) rfl gf_MO_25 rfl d_MO_balance_19 ?_
    refine lv_iload_n hx hb d_MO_balance_22 rfl (lv_at hl 2 rfl) ?_
    refine mo_ald X h 5 24 rfl (by decide) (j := a) (by omega) (by decide) d_MO_balance_23 ?_
    refine lk_top (nI na) (h5a) ?_
    refine lv_iload_n hx hb d_MO_balance_24 rfl (lv_at hl 0 rfl) ?_
    refine lk_cN_ge (tgt := 58) hx hb (by omega) (by omega) d_MO_balance_25 (by decide) (fun h1 => ?_) (fun h1 => ?_)
    · exact kk H locs ls h hl
    · omega
  | succ r ih =>
    intro na nb M hr hrb hnb h5a h5b H locs ls h hl kk
    refine lv_aload_n hx hb d_MO_balance_18 rfl (lv_at hl 1 rfl) ?_
    refine mo_get X rfl h 6 (by decide) rfl gf_MO_25 rfl d_MO_balance_19 ?_
    refine lv_iload_n hx hb d_MO_balance_22 rfl (lv_at hl 2 rfl) ?_
    refine mo_ald X h 5 24 rfl (by decide) (j := a) (by omega) (by decide) d_MO_balance_23 ?_
    refine lk_top (nI na) (h5a) ?_
    refine lv_iload_n hx hb d_MO_balance_24 rfl (lv_at hl 0 rfl) ?_
    refine lk_cN_ge (tgt := 58) hx hb (by omega) (by omega) d_MO_balance_25 (by decide) (fun h1 => ?_) (fun h1 => ?_)
    · omega
    · refine lv_aload_n hx hb d_MO_balance_28 rfl (lv_at hl 1 rfl) ?_
      refine lv_iload_n hx hb d_MO_balance_29 rfl (lv_at hl 2 rfl) ?_
      refine lv_aload_n hx hb d_MO_balance_30 rfl (lv_at hl 1 rfl) ?_
      refine mo_get X rfl h 8 (by decide) rfl gf_MO_31 rfl d_MO_balance_31 ?_
      refine lv_iconst (v := nI 5) hx hb d_MO_balance_34 (by decide) ?_
      refine lv_iload_n hx hb d_MO_balance_35 rfl (lv_at hl 3 rfl) ?_
      refine lk_imulN hx hb d_MO_balance_36 ?_
      refine mo_ald X h 7 120 rfl (by decide) (j := 5 * b) (by omega) (by decide) d_MO_balance_37 ?_
      refine lv_aload_n hx hb d_MO_balance_38 rfl (lv_at hl 1 rfl) ?_
      refine mo_get X rfl h 9 (by decide) rfl gf_MO_34 rfl d_MO_balance_39 ?_
      refine lv_iconst (v := nI 5) hx hb d_MO_balance_42 (by decide) ?_
      refine lv_iload_n hx hb d_MO_balance_43 rfl (lv_at hl 3 rfl) ?_
      refine lk_imulN hx hb d_MO_balance_44 ?_
      refine mo_ald X h 8 120 rfl (by decide) (j := 5 * b) (by omega) (by decide) d_MO_balance_45 ?_
      refine lk_gov (lk_runV (As := [.int (nI a), .int (M 7 (5 * b)), .int (M 8 (5 * b))]) (C := R_MO) X h (c_MO_append l D τ ad M a na ha h5a (by omega) _ _) ⟨gc_MO_append, gm_MO_154, gn_MO, gd_MO_append, hR.1, Nat.le_trans (by decide) hR.2⟩ gi_MO_append gs_MO_append ⟨0, 4, _, _, _, lk_w_get (by decide), rfl⟩ rfl hl.1 (Nat.le_of_ble_eq_true rfl) d_MO_balance_46 ⟨Nat.zero_le _, Nat.zero_le _⟩) h hA (fun σ46 H locs hk9 h => ?_)
      rw [hk9] at h
      refine lv_aload_n hx hb d_MO_balance_49 rfl (lv_at hl 1 rfl) ?_
      refine lv_iload_n hx hb d_MO_balance_50 rfl (lv_at hl 3 rfl) ?_
      refine lv_iconst (v := 0) hx hb d_MO_balance_51 (by decide) ?_
      refine lk_gov (lk_runV (As := [.int (nI b), .int 0]) (C := R_MO) X h (c_MO_takeOut l D τ ad _ b 0 nb hb2 (lk_ins_5.trans ((if_neg (Ne.symm hab)).trans h5b)) (by omega) (by omega)) ⟨gc_MO_takeOut, gm_MO_186, gn_MO, gd_MO_takeOut, hR.1, Nat.le_trans (by decide) hR.2⟩ gi_MO_takeOut gs_MO_takeOut ⟨0, 4, _, _, _, lk_w_get (by decide), rfl⟩ rfl hl.1 (Nat.le_of_ble_eq_true rfl) d_MO_balance_52 ⟨Nat.zero_le _, Nat.zero_le _⟩) h hA (fun σ52 H locs hk9 h => ?_)
      rw [hk9] at h
      refine lv_goto (tgt := 18) hx hb d_MO_balance_55 (by decide) ?_
      exact ih (na + 1) (nb - 1) _ (by omega) (by omega) (by omega) (by rw [lk_del_5, if_neg hab, lk_ins_5, if_pos rfl]) (by rw [lk_del_5, if_pos rfl]) H locs ls h hl kk
theorem w_MO_bal2 (X : lk_X pg s m args meth cd y_MO_balance b_MO_balance 5 (none) D τ) (hA : ∀ q, H0.size ≤ q → A q) (hR : 1 ≤ R.frames ∧ 25 ≤ R.locals) {a b half : Nat} (ha : a < 24) (hb2 : b < 24) (hab : a ≠ b) (hh : half ≤ 5) : ∀ (r na nb : Nat) (M : lk_M), half + r = na → na ≤ 5 → r + nb ≤ 5 → M 5 a = nI na → M 5 b = nI nb → ∀ (H : Heap) (locs : List Loc) (ls : Array Slot) (L : List (Nat × Value)), (∃ v4 : List (Nat × Value), L = v4 ++ [(3, .int (nI half)), (0, .ref (ad 0)), (1, .int (nI a)), (2, .int (nI b))] ∧ (v4 = [] ∨ ∃ z : Int32, v4 = [(4, .int z)])) → lk_H D lk_cl A H0 (lk_w 25 ad (lk_me τ ad M)) H locs → lv_has ls 5 L → (∀ (H : Heap) (locs : List Loc) (ls : Array Slot), lk_H D lk_cl A H0 (lk_w 25 ad (lk_me τ ad (lk_mvL a b r na nb M))) H locs → lv_has ls 5 [(3, .int (nI half)), (0, .ref (ad 0)), (1, .int (nI a)), (2, .int (nI b))] → W pg l en R s m args below meth cd H locs 0 0 Q (F0 m 115 ls [])) → W pg l en R s m args below meth cd H locs 0 0 Q (F0 m 58 ls []) := by
  obtain ⟨hx, hb, -⟩ := id X
  intro r
  induction r with
  | zero =>
    intro na nb M hr hna hrb h5a h5b H locs ls L hL h hl kk
    have hl : lv_has ls 5 [(3, .int (nI half)), (0, .ref (ad 0)), (1, .int (nI a)), (2, .int (nI b))] := by
      obtain ⟨v4, rfl, rfl | ⟨z, rfl⟩⟩ := hL
      · exact hl
      · exact lv_sub hl [1, 2, 3, 4] rfl
    refine lv_aload_n hx hb d_MO_balance_58 rfl (lv_at hl 1 rfl) ?_
    refine mo_get X rfl h 6 (by decide) rfl gf_MO_25 rfl d_MO_balance_59 ?_
    refine lv_iload_n hx hb d_MO_balance_62 rfl (lv_at hl 2 rfl) ?_
    refine mo_ald X h 5 24 rfl (by decide) (j := a) (by omega) (by decide) d_MO_balance_63 ?_
    refine lk_top (nI na) (h5a) ?_
    refine lv_iload_n hx hb d_MO_balance_64 rfl (lv_at hl 0 rfl) ?_
    refine lk_cN_le (tgt := 115) hx hb (by omega) (by omega) d_MO_balance_65 (by decide) (fun h1 => ?_) (fun h1 => ?_)
    · exact kk H locs ls h hl
    · omega
  | succ r ih =>
    intro na nb M hr hna hrb h5a h5b H locs ls L hL h hl kk
    have hl : lv_has ls 5 [(3, .int (nI half)), (0, .ref (ad 0)), (1, .int (nI a)), (2, .int (nI b))] := by
      obtain ⟨v4, rfl, rfl | ⟨z, rfl⟩⟩ := hL
      · exact hl
      · exact lv_sub hl [1, 2, 3, 4] rfl
    refine lv_aload_n hx hb d_MO_balance_58 rfl (lv_at hl 1 rfl) ?_
    refine mo_get X rfl h 6 (by decide) rfl gf_MO_25 rfl d_MO_balance_59 ?_
    refine lv_iload_n hx hb d_MO_balance_62 rfl (lv_at hl 2 rfl) ?_
    refine mo_ald X h 5 24 rfl (by decide) (j := a) (by omega) (by decide) d_MO_balance_63 ?_
    refine lk_top (nI na) (h5a) ?_
    refine lv_iload_n hx hb d_MO_balance_64 rfl (lv_at hl 0 rfl) ?_
    refine lk_cN_le (tgt := 115) hx hb (by omega) (by omega) d_MO_balance_65 (by decide) (fun h1 => ?_) (fun h1 => ?_)
    · omega
    · refine lv_iconst (v := nI 5) hx hb d_MO_balance_68 (by decide) ?_
      refine lv_iload_n hx hb d_MO_balance_69 rfl (lv_at hl 2 rfl) ?_
      refine lk_imulN hx hb d_MO_balance_70 ?_
      refine lv_aload_n hx hb d_MO_balance_71 rfl (lv_at hl 1 rfl) ?_
      refine mo_get X rfl h 6 (by decide) rfl gf_MO_25 rfl d_MO_balance_72 ?_
      refine lv_iload_n hx hb d_MO_balance_75 rfl (lv_at hl 2 rfl) ?_
      refine mo_ald X h 5 24 rfl (by decide) (j := a) (by omega) (by decide) d_MO_balance_76 ?_
      refine lk_top (nI na) (h5a) ?_
      refine lk_iaddN hx hb d_MO_balance_77 ?_
      refine lv_iconst (v := nI 1) hx hb d_MO_balance_78 (by decide) ?_
      refine lk_isubN hx hb (by omega) d_MO_balance_79 ?_
      refine lv_istore hx hb d_MO_balance_80 hl (by decide) rfl (fun ls hl => ?_)
      have hl : lv_has ls 5 [(4, .int (nI (5 * a + na - 1))), (3, .int (nI half)), (0, .ref (ad 0)), (1, .int (nI a)), (2, .int (nI b))] := hl
      refine lv_aload_n hx hb d_MO_balance_82 rfl (lv_at hl 2 rfl) ?_
      refine lv_iload_n hx hb d_MO_balance_83 rfl (lv_at hl 4 rfl) ?_
      refine lv_iconst (v := nI 0) hx hb d_MO_balance_84 (by decide) ?_
      refine lv_aload_n hx hb d_MO_balance_85 rfl (lv_at hl 2 rfl) ?_
      refine mo_get X rfl h 8 (by decide) rfl gf_MO_31 rfl d_MO_balance_86 ?_
      refine lv_iload hx hb d_MO_balance_89 (lv_at hl 0 rfl) ?_
      refine mo_ald X h 7 120 rfl (by decide) (j := 5 * a + na - 1) (by omega) (by decide) d_MO_balance_91 ?_
      refine lv_aload_n hx hb d_MO_balance_92 rfl (lv_at hl 2 rfl) ?_
      refine mo_get X rfl h 9 (by decide) rfl gf_MO_34 rfl d_MO_balance_93 ?_
      refine lv_iload hx hb d_MO_balance_96 (lv_at hl 0 rfl) ?_
      refine mo_ald X h 8 120 rfl (by decide) (j := 5 * a + na - 1) (by omega) (by decide) d_MO_balance_98 ?_
      refine lk_gov (lk_runV (As := [.int (nI b), .int (nI 0), .int (M 7 (5 * a + na - 1)), .int (M 8 (5 * a + na - 1))]) (C := R_MO) X h (c_MO_insert l D τ ad M b 0 nb hb2 h5b (by omega) (by omega) _ _) ⟨gc_MO_insert, gm_MO_179, gn_MO, gd_MO_insert, hR.1, Nat.le_trans (by decide) hR.2⟩ gi_MO_insert gs_MO_insert ⟨0, 4, _, _, _, lk_w_get (by decide), rfl⟩ rfl hl.1 (Nat.le_of_ble_eq_true rfl) d_MO_balance_99 ⟨Nat.zero_le _, Nat.zero_le _⟩) h hA (fun σ99 H locs hk9 h => ?_)
      rw [hk9] at h
      refine lv_aload_n hx hb d_MO_balance_102 rfl (lv_at hl 2 rfl) ?_
      refine mo_get X rfl h 6 (by decide) rfl gf_MO_25 rfl d_MO_balance_103 ?_
      refine lv_iload_n hx hb d_MO_balance_106 rfl (lv_at hl 3 rfl) ?_
      refine lv_dup2_11 hx hb d_MO_balance_107 rfl rfl ?_
      refine mo_ald X h 5 24 rfl (by decide) (j := a) (by omega) (by decide) d_MO_balance_108 ?_
      refine lk_top (nI na) (lk_ins_5.trans ((if_neg hab).trans h5a)) ?_
      refine lv_iconst (v := nI 1) hx hb d_MO_balance_109 (by decide) ?_
      refine lk_isubN hx hb (by omega) d_MO_balance_110 ?_
      refine mo_ast X h 5 24 rfl (by decide) (j := a) (v := nI (na - 1)) (by omega) (by decide) d_MO_balance_111 (fun H locs h => ?_)
      refine lv_goto (tgt := 58) hx hb d_MO_balance_112 (by decide) ?_
      exact ih (na - 1) (nb + 1) _ (by omega) (by omega) (by omega) lk_st_s (by rw [lk_st_p (Ne.symm hab), lk_ins_5, if_pos rfl]) H locs ls _ ⟨[(4, .int (nI (5 * a + na - 1)))], rfl, Or.inr ⟨_, rfl⟩⟩ h hl kk
end
section
variable {pg : Program} {l : Launch} {en : Env} {R : Room} {s : State} {m : MethodId} {args : Array Value} {below : List Frame} {meth : Method} {cd : Code} {H : Heap} {locs : List Loc} {cells slots : Nat} {Q : State → Prop} {D : va_G} {τ : Nat → ClassId} {ad : Nat → Nat} {A : Nat → Prop} {H0 : Heap} {M : lk_M}
theorem w_MO_bal2x (X : lk_X pg s m args meth cd y_MO_balance b_MO_balance 5 (none) D τ) (hA : ∀ q, H0.size ≤ q → A q) (hR : 1 ≤ R.frames ∧ 25 ≤ R.locals) {a b half na nb : Nat} (ha : a < 24) (hb2 : b < 24) (hab : a ≠ b) (h5a : M 5 a = nI na) (h5b : M 5 b = nI nb) (hh : half ≤ na) (hna : na ≤ 5) (hnb : na - half + nb ≤ 5) (H : Heap) (locs : List Loc) (ls : Array Slot) (h : lk_H D lk_cl A H0 (lk_w 25 ad (lk_me τ ad M)) H locs) (hl : lv_has ls 5 [(3, .int (nI half)), (0, .ref (ad 0)), (1, .int (nI a)), (2, .int (nI b))]) (kk : ∀ (H : Heap) (locs : List Loc) (ls : Array Slot), lk_H D lk_cl A H0 (lk_w 25 ad (lk_me τ ad (lk_mvL a b (na - half) na nb M))) H locs → lv_has ls 5 [(3, .int (nI half)), (0, .ref (ad 0)), (1, .int (nI a)), (2, .int (nI b))] → W pg l en R s m args below meth cd H locs 0 0 Q (F0 m 115 ls [])) : W pg l en R s m args below meth cd H locs 0 0 Q (F0 m 18 ls []) := by
  obtain ⟨hx, hb, -⟩ := id X
  refine lv_aload_n hx hb d_MO_balance_18 rfl (lv_at hl 1 rfl) ?_
  refine mo_get X rfl h 6 (by decide) rfl gf_MO_25 rfl d_MO_balance_19 ?_
  refine lv_iload_n hx hb d_MO_balance_22 rfl (lv_at hl 2 rfl) ?_
  refine mo_ald X h 5 24 rfl (by decide) (j := a) (by omega) (by decide) d_MO_balance_23 ?_
  refine lk_top (nI na) (h5a) ?_
  refine lv_iload_n hx hb d_MO_balance_24 rfl (lv_at hl 0 rfl) ?_
  refine lk_cN_ge (tgt := 58) hx hb (by omega) (by omega) d_MO_balance_25 (by decide) (fun h1 => ?_) (fun h1 => ?_)
  · exact w_MO_bal2 X hA hR ha hb2 hab (by omega) (na - half) na nb M (by omega) hna hnb h5a h5b H locs ls _ ⟨[], rfl, Or.inl rfl⟩ h hl kk
  · omega
end
set_option maxRecDepth 20000 in
theorem c_MO_balance (l : Launch) (D : va_G) (τ : Nat → ClassId) (ad : Nat → Nat) (M : lk_M) (a b na nb : Nat) (ha : a < 24) (hb2 : b < 24) (hab : a ≠ b) (h5a : M 5 a = nI na) (h5b : M 5 b = nI nb) (hna : na ≤ 4) (hnb : nb ≤ 4) (hpos : 0 < na + nb) : lk_Cv l D τ 25 ad (lk_me τ ad) y_MO_balance b_MO_balance 5 1 25 [.ref (ad 0), .int (nI a), .int (nI b)] M (fun M1 => M1 = mm_bal M a b na nb) := by
  refine lk_openv (by decide +kernel) (Nat.le_of_ble_eq_true rfl) ?_
  intro pg en s m args below meth cd ls A X h hA hl
  obtain ⟨hx, hb, -⟩ := id X
  have hl : lv_has ls 5 [(0, .ref (ad 0)), (1, .int (nI a)), (2, .int (nI b))] := hl
  refine lv_aload_n hx hb d_MO_balance_0 rfl (lv_at hl 0 rfl) ?_
  refine mo_get X rfl h 6 (by decide) rfl gf_MO_25 rfl d_MO_balance_1 ?_
  refine lv_iload_n hx hb d_MO_balance_4 rfl (lv_at hl 1 rfl) ?_
  refine mo_ald X h 5 24 rfl (by decide) (j := a) (by omega) (by decide) d_MO_balance_5 ?_
  refine lk_top (nI na) (h5a) ?_
  refine lv_aload_n hx hb d_MO_balance_6 rfl (lv_at hl 0 rfl) ?_
  refine mo_get X rfl h 6 (by decide) rfl gf_MO_25 rfl d_MO_balance_7 ?_
  refine lv_iload_n hx hb d_MO_balance_10 rfl (lv_at hl 2 rfl) ?_
  refine mo_ald X h 5 24 rfl (by decide) (j := b) (by omega) (by decide) d_MO_balance_11 ?_
  refine lk_top (nI nb) (h5b) ?_
  refine lk_iaddN hx hb d_MO_balance_12 ?_
  refine lv_iconst (v := nI 1) hx hb d_MO_balance_13 (by decide) ?_
  refine lk_iaddN hx hb d_MO_balance_14 ?_
  refine lv_iconst (v := nI 2) hx hb d_MO_balance_15 (by decide) ?_
  refine lk_idivN hx hb (by omega) (by omega) (by omega) d_MO_balance_16 ?_
  refine lv_istore_n hx hb d_MO_balance_17 rfl hl (by decide) rfl (fun ls hl => ?_)
  have hl : lv_has ls 5 [(3, .int (nI ((na + nb + 1) / 2))), (0, .ref (ad 0)), (1, .int (nI a)), (2, .int (nI b))] := hl
  have hl2 : (na + nb + 1) / 2 ≤ na + nb := by omega
  have hl3 : 1 ≤ (na + nb + 1) / 2 := by omega
  have hl4 : (na + nb + 1) / 2 ≤ 4 := by omega
  have hl5 : na - (na + nb + 1) / 2 + nb ≤ 4 := by omega
  have hl6 : na + nb ≤ 2 * ((na + nb + 1) / 2) := by omega
  generalize hhf : (na + nb + 1) / 2 = half at *
  obtain ⟨q1, q2⟩ := lk_mvF_5 a b hab (half - na) na nb M (by omega) h5a h5b
  have fin : ∀ (H : Heap) (locs : List Loc) (ls : Array Slot), lk_H D lk_cl A s.heap (lk_w 25 ad (lk_me τ ad (lk_shr M a b na nb))) H locs → lv_has ls 5 [(3, .int (nI half)), (0, .ref (ad 0)), (1, .int (nI a)), (2, .int (nI b))] → W pg l en (lk_rm 1 25) s m args below meth cd H locs 0 0 (MQ below (va_Qv (fun M1 => M1 = mm_bal M a b na nb) (lk_Bh D τ 25 ad (lk_me τ ad)) A) args s 0 0 A) (F0 m 115 ls []) := by
    intro H locs ls h hl
    refine lv_aload_n hx hb d_MO_balance_115 rfl (lv_at hl 1 rfl) ?_
    refine mo_get X rfl h 4 (by decide) rfl gf_MO_19 rfl d_MO_balance_116 ?_
    refine lv_iload_n hx hb d_MO_balance_119 rfl (lv_at hl 2 rfl) ?_
    refine lv_aload_n hx hb d_MO_balance_120 rfl (lv_at hl 1 rfl) ?_
    refine mo_get X rfl h 8 (by decide) rfl gf_MO_31 rfl d_MO_balance_121 ?_
    refine lv_iconst (v := nI 5) hx hb d_MO_balance_124 (by decide) ?_
    refine lv_iload_n hx hb d_MO_balance_125 rfl (lv_at hl 2 rfl) ?_
    refine lk_imulN hx hb d_MO_balance_126 ?_
    refine lv_iload_n hx hb d_MO_balance_127 rfl (lv_at hl 0 rfl) ?_
    refine lk_iaddN hx hb d_MO_balance_128 ?_
    refine lv_iconst (v := nI 1) hx hb d_MO_balance_129 (by decide) ?_
    refine lk_isubN hx hb (by omega) d_MO_balance_130 ?_
    refine mo_ald X h 7 120 rfl (by decide) (j := 5 * a + half - 1) (by omega) (by decide) d_MO_balance_131 ?_
    refine mo_ast X h 3 24 rfl (by decide) (j := a) (v := (lk_shr M a b na nb) 7 (5 * a + half - 1)) (by omega) (by decide) d_MO_balance_132 (fun H locs h => ?_)
    refine lv_aload_n hx hb d_MO_balance_133 rfl (lv_at hl 1 rfl) ?_
    refine mo_get X rfl h 3 (by decide) rfl gf_MO_16 rfl d_MO_balance_134 ?_
    refine lv_iload_n hx hb d_MO_balance_137 rfl (lv_at hl 3 rfl) ?_
    refine lv_aload_n hx hb d_MO_balance_138 rfl (lv_at hl 1 rfl) ?_
    refine mo_get X rfl h 4 (by decide) rfl gf_MO_19 rfl d_MO_balance_139 ?_
    refine lv_iload_n hx hb d_MO_balance_142 rfl (lv_at hl 2 rfl) ?_
    refine mo_ald X h 3 24 rfl (by decide) (j := a) (by omega) (by decide) d_MO_balance_143 ?_
    refine lk_top ((lk_shr M a b na nb) 7 (5 * a + half - 1)) (lk_st_s) ?_
    refine mo_ast X h 2 24 rfl (by decide) (j := b) (v := (lk_shr M a b na nb) 7 (5 * a + half - 1)) (by omega) (by decide) d_MO_balance_144 (fun H locs h => ?_)
    exact lk_retv X h d_MO_balance_145 (by unfold mm_bal; rw [hhf])
  by_cases hc : na ≤ half
  · refine w_MO_bal1 X hA (by decide) ha hb2 hab (by omega) (half - na) na nb M (by omega) (by omega) (by omega) h5a h5b _ _ ls h hl (fun H locs ls h hl => ?_)
    refine w_MO_bal2 X hA (by decide) ha hb2 hab (by omega) 0 (na + (half - na)) (nb - (half - na)) _ (by omega) (by omega) (by omega) q1 q2 _ _ ls _ ⟨[], rfl, Or.inl rfl⟩ h hl (fun H locs ls h hl => fin H locs ls ?_ hl)
    have e : lk_shr M a b na nb = lk_mvL a b 0 (na + (half - na)) (nb - (half - na)) (lk_mvF a b (half - na) na nb M) := by unfold lk_shr; rw [hhf, show na - half = 0 by omega]
    rw [e]; exact h
  · refine w_MO_bal2x X hA (by decide) ha hb2 hab h5a h5b (by omega) (by omega) (by omega) _ _ ls h hl (fun H locs ls h hl => fin H locs ls ?_ hl)
    have e : lk_shr M a b na nb = lk_mvL a b (na - half) na nb M := by unfold lk_shr; rw [hhf, show half - na = 0 by omega]; rfl
    rw [e]; exact h
end
section
/-- the first j entries of b behind a's -/
def lk_apL (σ : lk_M) (a b na : Nat) : Nat → lk_M
  | 0 => σ
  | j + 1 => lk_ins (lk_apL σ a b na j) a (na + j) (na + j) (lk_apL σ a b na j 7 (5 * b + j)) (lk_apL σ a b na j 8 (5 * b + j))
theorem lk_apL_f (σ : lk_M) (a b na : Nat) {f i : Nat} (h5 : f ≠ 5) (h7 : f ≠ 7) (h8 : f ≠ 8) : ∀ j, lk_apL σ a b na j f i = σ f i := by
  intro j
  induction j with
  | zero => rfl
  | succ j ih => exact (lk_ins_f h5 h7 h8).trans ih
theorem lk_apL_5 (σ : lk_M) (a b na : Nat) {i : Nat} (h : i ≠ a) : ∀ j, lk_apL σ a b na j 5 i = σ 5 i := by
  intro j
  induction j with
  | zero => rfl
  | succ j ih => exact lk_ins_5.trans ((if_neg h).trans ih)
theorem lk_apL_a (σ : lk_M) (a b na : Nat) (h : σ 5 a = nI na) : ∀ j, lk_apL σ a b na j 5 a = nI (na + j) := by
  intro j
  cases j with
  | zero => exact h
  | succ j => exact lk_ins_5.trans (if_pos rfl)
theorem mm_rel_f {σ : lk_M} {p f i : Nat} (h : f ≠ 0) : mm_rel σ p f i = σ f i := by
  unfold mm_rel
  by_cases c : σ 0 p = 2 ∧ σ 9 p = 0
  · rw [if_pos c, lk_st_f h]
  · rw [if_neg c]
theorem lk_lq_f {σ : lk_M} {x : Int32} {n f i : Nat} (h : f ≠ 10) (h2 : f ≠ 24) : lk_lq σ x n f i = σ f i := by
  unfold lk_lq
  simp only [lk_up_eq]
  rw [if_neg h2, if_neg h]
theorem mm_die_f {σ : lk_M} {p t n f i : Nat} (h0 : f ≠ 0) (h9 : f ≠ 9) (h10 : f ≠ 10) (h24 : f ≠ 24) : mm_die σ p t n f i = σ f i := by
  unfold mm_die
  rw [mm_rel_f h0, lk_st_f h9, lk_lq_f h10 h24, lk_st_f h0]
theorem mm_die_r {σ : lk_M} {p t n : Nat} : mm_die σ p t n 24 0 = σ 24 0 := by
  unfold mm_die
  rw [mm_rel_f (by decide), lk_st_f (by decide)]
  unfold lk_lq
  simp only [lk_up_eq, upd]
  simp
  rw [lk_st_f (by decide)]
theorem mm_die_q {σ : lk_M} {p t n : Nat} : mm_die σ p t n 24 1 = nI (lk_cmp (σ 10) (nI p) n).2 := by
  unfold mm_die
  rw [mm_rel_f (by decide), lk_st_f (by decide)]
  unfold lk_lq
  simp only [lk_up_eq, upd]
  simp
  congr 1
def lk_ji (c n : Nat) : Nat := if c + 1 = n then c - 1 else c
noncomputable def mm_merge (M : lk_M) (t p n i a b na nb rt nq : Nat) : lk_M :=
  if n - 1 = 1 then mm_shrinks (lk_st (lk_del (mm_die (lk_st (lk_st (lk_apL M a b na nb) 3 a (M 3 b)) 4 a (M 4 b)) b t nq) p i n) 8 (5 * p + i) (nI a)) t p rt (lk_cmp (M 10) (nI b) nq).2
  else lk_st (lk_del (mm_die (lk_st (lk_st (lk_apL M a b na nb) 3 a (M 3 b)) 4 a (M 4 b)) b t nq) p i n) 8 (5 * p + i) (nI a)
noncomputable def mm_joins (M : lk_M) (t p n x a b na nb rt nq c i : Nat) : Int32 × lk_M :=
  if M 0 x ≠ 1 ∨ ¬ c < n ∨ n = 1 then (2, mm_fin M t 0) else if M 6 a ≠ -1 ∨ M 6 b ≠ -1 then (1, M) else if M 3 a ≠ M 7 (5 * p + i) ∨ M 3 b ≠ M 7 (5 * p + i + 1) then (2, mm_fin M t 0)
  else if 4 < na + nb then (2, mm_fin (lk_st (mm_bal M a b na nb) 7 (5 * p + i) (lk_shr M a b na nb 7 (5 * a + (na + nb + 1) / 2 - 1))) t 1) else (2, mm_fin (mm_merge M t p n i a b na nb rt nq) t 1)
section
variable {pg : Program} {l : Launch} {en : Env} {R : Room} {s : State} {m : MethodId} {args : Array Value} {below : List Frame} {meth : Method} {cd : Code} {H : Heap} {locs : List Loc} {cells slots : Nat} {Q : State → Prop} {D : va_G} {τ : Nat → ClassId} {ad : Nat → Nat} {A : Nat → Prop} {H0 : Heap} {M : lk_M}
theorem w_MO_joins (X : lk_X pg s m args meth cd y_MO_joins b_MO_joins 7 (some (.int)) D τ) (hA : ∀ q, H0.size ≤ q → A q) (hR : 1 ≤ R.frames ∧ 23 ≤ R.locals) {a b na nb t p i : Nat} (ha : a < 24) (hb2 : b < 24) (hab : a ≠ b) (h5a : M 5 a = nI na) (h5b : M 5 b = nI nb) (hs : na + nb ≤ 4) : ∀ (r j : Nat), j + r = nb → ∀ (H : Heap) (locs : List Loc) (ls : Array Slot), lk_H D lk_cl A H0 (lk_w 25 ad (lk_me τ ad (lk_apL M a b na j))) H locs → lv_has ls 7 [(6, .int (nI (5 * b + j))), (5, .int (nI b)), (4, .int (nI a)), (3, .int (nI i)), (0, .ref (ad 0)), (1, .int (nI t)), (2, .int (nI p))] → (∀ (H : Heap) (locs : List Loc) (ls : Array Slot), lk_H D lk_cl A H0 (lk_w 25 ad (lk_me τ ad (lk_apL M a b na nb))) H locs → lv_has ls 7 [(6, .int (nI (5 * b + nb))), (5, .int (nI b)), (4, .int (nI a)), (3, .int (nI i)), (0, .ref (ad 0)), (1, .int (nI t)), (2, .int (nI p))] → W pg l en R s m args below meth cd H locs 0 0 Q (F0 m 259 ls [])) → W pg l en R s m args below meth cd H locs 0 0 Q (F0 m 216 ls []) := by
  obtain ⟨hx, hb, -⟩ := id X
  intro r
  induction r with
  | zero =>
    intro j hj H locs ls h hl kk
    have hj : j = nb := by omega
    subst hj
    have hcb := (lk_apL_5 M a b na (Ne.symm hab) j).trans h5b
    refine lv_iload hx hb d_MO_joins_216 (lv_at hl 0 rfl) ?_
    refine lv_iconst (v := nI 5) hx hb d_MO_joins_218 (by decide) ?_
    refine lv_iload hx hb d_MO_joins_219 (lv_at hl 1 rfl) ?_
    refine lk_imulN hx hb d_MO_joins_221 ?_
    refine lv_aload_n hx hb d_MO_joins_222 rfl (lv_at hl 4 rfl) ?_
    refine mo_get X rfl h 6 (by decide) rfl gf_MO_25 rfl d_MO_joins_223 ?_
    refine lv_iload hx hb d_MO_joins_226 (lv_at hl 1 rfl) ?_
    refine mo_ald X h 5 24 rfl (by decide) (j := b) (by omega) (by decide) d_MO_joins_228 ?_
    refine lk_top (nI j) (hcb) ?_
    refine lk_iaddN hx hb d_MO_joins_229 ?_
    refine lk_cN_ge (tgt := 259) hx hb (by omega) (by omega) d_MO_joins_230 (by decide) (fun h1 => ?_) (fun h1 => ?_)
    · exact kk H locs ls h hl
    · omega
  | succ r ih =>
    intro j hj H locs ls h hl kk
    have hcb := (lk_apL_5 M a b na (Ne.symm hab) j).trans h5b
    refine lv_iload hx hb d_MO_joins_216 (lv_at hl 0 rfl) ?_
    refine lv_iconst (v := nI 5) hx hb d_MO_joins_218 (by decide) ?_
    refine lv_iload hx hb d_MO_joins_219 (lv_at hl 1 rfl) ?_
    refine lk_imulN hx hb d_MO_joins_221 ?_
    refine lv_aload_n hx hb d_MO_joins_222 rfl (lv_at hl 4 rfl) ?_
    refine mo_get X rfl h 6 (by decide) rfl gf_MO_25 rfl d_MO_joins_223 ?_
    refine lv_iload hx hb d_MO_joins_226 (lv_at hl 1 rfl) ?_
    refine mo_ald X h 5 24 rfl (by decide) (j := b) (by omega) (by decide) d_MO_joins_228 ?_
    refine lk_top (nI nb) (hcb) ?_
    refine lk_iaddN hx hb d_MO_joins_229 ?_
    refine lk_cN_ge (tgt := 259) hx hb (by omega) (by omega) d_MO_joins_230 (by decide) (fun h1 => ?_) (fun h1 => ?_)
    · omega
    · refine lv_aload_n hx hb d_MO_joins_233 rfl (lv_at hl 4 rfl) ?_
      refine lv_iload hx hb d_MO_joins_234 (lv_at hl 2 rfl) ?_
      refine lv_aload_n hx hb d_MO_joins_236 rfl (lv_at hl 4 rfl) ?_
      refine mo_get X rfl h 8 (by decide) rfl gf_MO_31 rfl d_MO_joins_237 ?_
      refine lv_iload hx hb d_MO_joins_240 (lv_at hl 0 rfl) ?_
      refine mo_ald X h 7 120 rfl (by decide) (j := 5 * b + j) (by omega) (by decide) d_MO_joins_242 ?_
      refine lv_aload_n hx hb d_MO_joins_243 rfl (lv_at hl 4 rfl) ?_
      refine mo_get X rfl h 9 (by decide) rfl gf_MO_34 rfl d_MO_joins_244 ?_
      refine lv_iload hx hb d_MO_joins_247 (lv_at hl 0 rfl) ?_
      refine mo_ald X h 8 120 rfl (by decide) (j := 5 * b + j) (by omega) (by decide) d_MO_joins_249 ?_
      refine lk_gov (lk_runV (As := [.int (nI a), .int ((lk_apL M a b na j) 7 (5 * b + j)), .int ((lk_apL M a b na j) 8 (5 * b + j))]) (C := R_MO) X h (c_MO_append l D τ ad _ a (na + j) ha (lk_apL_a M a b na h5a j) (by omega) _ _) ⟨gc_MO_append, gm_MO_154, gn_MO, gd_MO_append, hR.1, Nat.le_trans (by decide) hR.2⟩ gi_MO_append gs_MO_append ⟨0, 4, _, _, _, lk_w_get (by decide), rfl⟩ rfl hl.1 (Nat.le_of_ble_eq_true rfl) d_MO_joins_250 ⟨Nat.zero_le _, Nat.zero_le _⟩) h hA (fun σ250 H locs hk9 h => ?_)
      rw [hk9] at h
      refine lv_iinc (k := 0) (v := nI (5 * b + j + 1)) hx hb d_MO_joins_253 hl rfl (nI_1 _) (by decide) rfl (fun ls hl => ?_)
      have hl : lv_has ls 7 [(6, .int (nI (5 * b + j + 1))), (5, .int (nI b)), (4, .int (nI a)), (3, .int (nI i)), (0, .ref (ad 0)), (1, .int (nI t)), (2, .int (nI p))] := hl
      refine lv_goto (tgt := 216) hx hb d_MO_joins_256 (by decide) ?_
      exact ih (j + 1) (by omega) H locs ls h hl kk
end
set_option maxRecDepth 20000 in
theorem c_MO_joins (l : Launch) (D : va_G) (τ : Nat → ClassId) (ad : Nat → Nat) (M : lk_M) (t p n x a b na nb rt nq c i : Nat) (ht : t < 4) (hp : p < 24) (hx2 : x < 24) (habt : M 18 t = nI x) (hc : M 5 p = nI n) (hn1 : 1 ≤ n) (hn : n ≤ 4) (hrt : rt < 24) (hr0 : M 24 0 = nI rt) (hnq : nq ≤ 12) (hq0 : M 24 1 = nI nq) (hch : lk_ch M p n (nI x) = c) (hji : lk_ji c n = i) (hpr : c < n → 2 ≤ n → M 8 (5 * p + i) = nI a ∧ M 8 (5 * p + i + 1) = nI b ∧ a < 24 ∧ b < 24 ∧ a ≠ b ∧ a ≠ p ∧ b ≠ p ∧ M 5 a = nI na ∧ M 5 b = nI nb ∧ na ≤ 4 ∧ nb ≤ 4) : lk_Ci l D τ 25 ad (lk_me τ ad) y_MO_joins b_MO_joins 7 (.int) 3 68 [.ref (ad 0), .int (nI t), .int (nI p)] M (fun r M1 => r = (mm_joins M t p n x a b na nb rt nq c i).1 ∧ M1 = (mm_joins M t p n x a b na nb rt nq c i).2) := by
  refine lk_openi (by decide +kernel) (Nat.le_of_ble_eq_true rfl) ?_
  intro pg en s m args below meth cd ls A X h hA hl
  obtain ⟨hx, hb, -⟩ := id X
  have hl : lv_has ls 7 [(0, .ref (ad 0)), (1, .int (nI t)), (2, .int (nI p))] := hl
  refine lv_aload_n hx hb d_MO_joins_0 rfl (lv_at hl 0 rfl) ?_
  refine lv_iload_n hx hb d_MO_joins_1 rfl (lv_at hl 2 rfl) ?_
  refine lv_aload_n hx hb d_MO_joins_2 rfl (lv_at hl 0 rfl) ?_
  refine mo_get X rfl h 21 (by decide) rfl gf_MO_65 rfl d_MO_joins_3 ?_
  refine lv_iload_n hx hb d_MO_joins_6 rfl (lv_at hl 1 rfl) ?_
  refine mo_ald X h 18 4 rfl (by decide) (j := t) (by omega) (by decide) d_MO_joins_7 ?_
  refine lk_top (nI x) (habt) ?_
  refine lk_goi (lk_runV (As := [.int (nI p), .int (nI x)]) (C := R_MO) X h (c_MO_childOf l D τ ad M p n hp hc (by omega) (nI x)) ⟨gc_MO_childOf, gm_MO_192, gn_MO, gd_MO_childOf, by decide, by decide⟩ gi_MO_childOf gs_MO_childOf ⟨0, 4, _, _, _, lk_w_get (by decide), rfl⟩ rfl hl.1 (Nat.le_of_ble_eq_true rfl) d_MO_joins_8 ⟨Nat.zero_le _, Nat.zero_le _⟩) h hA (fun r8 σ8 H locs hk9 h => ?_)
  rw [hk9.2] at h
  rw [hk9.1, hch]
  by_cases hcn : c < n
  · rw [show lk_nn c n = nI c from if_pos hcn]
    refine lv_istore_n hx hb d_MO_joins_11 rfl hl (by decide) rfl (fun ls hl => ?_)
    have hl : lv_has ls 7 [(3, .int (nI c)), (0, .ref (ad 0)), (1, .int (nI t)), (2, .int (nI p))] := hl
    refine lv_aload_n hx hb d_MO_joins_12 rfl (lv_at hl 1 rfl) ?_
    refine mo_get X rfl h 1 (by decide) rfl gf_MO_7 rfl d_MO_joins_13 ?_
    refine lv_aload_n hx hb d_MO_joins_16 rfl (lv_at hl 1 rfl) ?_
    refine mo_get X rfl h 21 (by decide) rfl gf_MO_65 rfl d_MO_joins_17 ?_
    refine lv_iload_n hx hb d_MO_joins_20 rfl (lv_at hl 2 rfl) ?_
    refine mo_ald X h 18 4 rfl (by decide) (j := t) (by omega) (by decide) d_MO_joins_21 ?_
    refine lk_top (nI x) (habt) ?_
    refine mo_ald X h 0 24 rfl (by decide) (j := x) (by omega) (by decide) d_MO_joins_22 ?_
    refine lv_iconst (v := 1) hx hb d_MO_joins_23 (by decide) ?_
    refine lv_icmp_ne (tgt := 42) hx hb d_MO_joins_24 (by decide) (fun h1 => ?_) (fun h1 => ?_)
    · refine lv_aload_n hx hb d_MO_joins_42 rfl (lv_at hl 1 rfl) ?_
      refine lv_iload_n hx hb d_MO_joins_43 rfl (lv_at hl 2 rfl) ?_
      refine lv_iconst (v := 0) hx hb d_MO_joins_44 (by decide) ?_
      refine lk_goi (lk_runV (As := [.int (nI t), .int 0]) (C := R_MO) X h (c_MO_finish l D τ ad _ t ht 0) ⟨gc_MO_finish, gm_MO_126, gn_MO, gd_MO_finish, by decide, by decide⟩ gi_MO_finish gs_MO_finish ⟨0, 4, _, _, _, lk_w_get (by decide), rfl⟩ rfl hl.1 (Nat.le_of_ble_eq_true rfl) d_MO_joins_45 ⟨Nat.zero_le _, Nat.zero_le _⟩) h hA (fun r45 σ45 H locs hk9 h => ?_)
      rw [hk9.2] at h
      rw [hk9.1]
      exact lk_reti X h d_MO_joins_48 (by rw [mm_joins, if_pos (Or.inl h1)]; exact ⟨rfl, rfl⟩)
    · refine lv_iload_n hx hb d_MO_joins_27 rfl (lv_at hl 0 rfl) ?_
      refine lv_iconst (v := (-1)) hx hb d_MO_joins_28 (by decide) ?_
      refine lv_icmp_eq (tgt := 42) hx hb d_MO_joins_29 (by decide) (fun h2 => ?_) (fun h2 => ?_)
      · exact absurd h2 (lk_nI_m1 (by omega))
      · refine lv_aload_n hx hb d_MO_joins_32 rfl (lv_at hl 1 rfl) ?_
        refine mo_get X rfl h 6 (by decide) rfl gf_MO_25 rfl d_MO_joins_33 ?_
        refine lv_iload_n hx hb d_MO_joins_36 rfl (lv_at hl 3 rfl) ?_
        refine mo_ald X h 5 24 rfl (by decide) (j := p) (by omega) (by decide) d_MO_joins_37 ?_
        refine lk_top (nI n) (hc) ?_
        refine lv_iconst (v := nI 1) hx hb d_MO_joins_38 (by decide) ?_
        refine lk_cN_ne (tgt := 49) hx hb (by omega) (by omega) d_MO_joins_39 (by decide) (fun h3 => ?_) (fun h3 => ?_)
        · obtain ⟨p1, p2, ha, hb2, hab, hap, hbp, h5a, h5b, hna, hnb⟩ := hpr hcn (by omega)
          refine lv_iload_n hx hb d_MO_joins_49 rfl (lv_at hl 0 rfl) ?_
          refine lv_aload_n hx hb d_MO_joins_50 rfl (lv_at hl 1 rfl) ?_
          refine mo_get X rfl h 6 (by decide) rfl gf_MO_25 rfl d_MO_joins_51 ?_
          refine lv_iload_n hx hb d_MO_joins_54 rfl (lv_at hl 3 rfl) ?_
          refine mo_ald X h 5 24 rfl (by decide) (j := p) (by omega) (by decide) d_MO_joins_55 ?_
          refine lk_top (nI n) (hc) ?_
          refine lv_iconst (v := nI 1) hx hb d_MO_joins_56 (by decide) ?_
          refine lk_isubN hx hb (by omega) d_MO_joins_57 ?_
          refine lk_cN_ne (tgt := 64) hx hb (by omega) (by omega) d_MO_joins_58 (by decide) (fun h4 => ?_) (fun h4 => ?_)
          · have ei : c = i := by rw [← hji]; exact (if_neg (by omega)).symm
            rw [ei] at hl
            refine lv_aload_n hx hb d_MO_joins_64 rfl (lv_at hl 1 rfl) ?_
            refine mo_get X rfl h 9 (by decide) rfl gf_MO_34 rfl d_MO_joins_65 ?_
            refine lv_iconst (v := nI 5) hx hb d_MO_joins_68 (by decide) ?_
            refine lv_iload_n hx hb d_MO_joins_69 rfl (lv_at hl 3 rfl) ?_
            refine lk_imulN hx hb d_MO_joins_70 ?_
            refine lv_iload_n hx hb d_MO_joins_71 rfl (lv_at hl 0 rfl) ?_
            refine lk_iaddN hx hb d_MO_joins_72 ?_
            refine mo_ald X h 8 120 rfl (by decide) (j := 5 * p + i) (by omega) (by decide) d_MO_joins_73 ?_
            refine lk_top (nI a) (p1) ?_
            refine lv_istore hx hb d_MO_joins_74 hl (by decide) rfl (fun ls hl => ?_)
            have hl : lv_has ls 7 [(4, .int (nI a)), (3, .int (nI i)), (0, .ref (ad 0)), (1, .int (nI t)), (2, .int (nI p))] := hl
            refine lv_aload_n hx hb d_MO_joins_76 rfl (lv_at hl 2 rfl) ?_
            refine mo_get X rfl h 9 (by decide) rfl gf_MO_34 rfl d_MO_joins_77 ?_
            refine lv_iconst (v := nI 5) hx hb d_MO_joins_80 (by decide) ?_
            refine lv_iload_n hx hb d_MO_joins_81 rfl (lv_at hl 4 rfl) ?_
            refine lk_imulN hx hb d_MO_joins_82 ?_
            refine lv_iload_n hx hb d_MO_joins_83 rfl (lv_at hl 1 rfl) ?_
            refine lk_iaddN hx hb d_MO_joins_84 ?_
            refine lv_iconst (v := nI 1) hx hb d_MO_joins_85 (by decide) ?_
            refine lk_iaddN hx hb d_MO_joins_86 ?_
            refine mo_ald X h 8 120 rfl (by decide) (j := 5 * p + i + 1) (by omega) (by decide) d_MO_joins_87 ?_
            refine lk_top (nI b) (p2) ?_
            refine lv_istore hx hb d_MO_joins_88 hl (by decide) rfl (fun ls hl => ?_)
            have hl : lv_has ls 7 [(5, .int (nI b)), (4, .int (nI a)), (3, .int (nI i)), (0, .ref (ad 0)), (1, .int (nI t)), (2, .int (nI p))] := hl
            refine lv_aload_n hx hb d_MO_joins_90 rfl (lv_at hl 3 rfl) ?_
            refine mo_get X rfl h 7 (by decide) rfl gf_MO_28 rfl d_MO_joins_91 ?_
            refine lv_iload hx hb d_MO_joins_94 (lv_at hl 1 rfl) ?_
            refine mo_ald X h 6 24 rfl (by decide) (j := a) (by omega) (by decide) d_MO_joins_96 ?_
            refine lv_iconst (v := (-1)) hx hb d_MO_joins_97 (by decide) ?_
            refine lv_icmp_ne (tgt := 112) hx hb d_MO_joins_98 (by decide) (fun h5 => ?_) (fun h5 => ?_)
            · refine lv_iconst (v := 1) hx hb d_MO_joins_112 (by decide) ?_
              exact lk_reti X h d_MO_joins_113 (by rw [mm_joins, if_neg (show ¬ (M 0 x ≠ 1 ∨ ¬ c < n ∨ n = 1) from fun z => z.elim (fun q => q h1) (fun q => q.elim (fun q => q hcn) h3)), if_pos (Or.inl h5)]; exact ⟨rfl, rfl⟩)
            · refine lv_aload_n hx hb d_MO_joins_101 rfl (lv_at hl 3 rfl) ?_
              refine mo_get X rfl h 7 (by decide) rfl gf_MO_28 rfl d_MO_joins_102 ?_
              refine lv_iload hx hb d_MO_joins_105 (lv_at hl 0 rfl) ?_
              refine mo_ald X h 6 24 rfl (by decide) (j := b) (by omega) (by decide) d_MO_joins_107 ?_
              refine lv_iconst (v := (-1)) hx hb d_MO_joins_108 (by decide) ?_
              refine lv_icmp_eq (tgt := 114) hx hb d_MO_joins_109 (by decide) (fun h6 => ?_) (fun h6 => ?_)
              · refine lv_aload_n hx hb d_MO_joins_114 rfl (lv_at hl 3 rfl) ?_
                refine mo_get X rfl h 4 (by decide) rfl gf_MO_19 rfl d_MO_joins_115 ?_
                refine lv_iload hx hb d_MO_joins_118 (lv_at hl 1 rfl) ?_
                refine mo_ald X h 3 24 rfl (by decide) (j := a) (by omega) (by decide) d_MO_joins_120 ?_
                refine lv_aload_n hx hb d_MO_joins_121 rfl (lv_at hl 3 rfl) ?_
                refine mo_get X rfl h 8 (by decide) rfl gf_MO_31 rfl d_MO_joins_122 ?_
                refine lv_iconst (v := nI 5) hx hb d_MO_joins_125 (by decide) ?_
                refine lv_iload_n hx hb d_MO_joins_126 rfl (lv_at hl 5 rfl) ?_
                refine lk_imulN hx hb d_MO_joins_127 ?_
                refine lv_iload_n hx hb d_MO_joins_128 rfl (lv_at hl 2 rfl) ?_
                refine lk_iaddN hx hb d_MO_joins_129 ?_
                refine mo_ald X h 7 120 rfl (by decide) (j := 5 * p + i) (by omega) (by decide) d_MO_joins_130 ?_
                refine lv_icmp_ne (tgt := 156) hx hb d_MO_joins_131 (by decide) (fun h7 => ?_) (fun h7 => ?_)
                · refine lv_aload_n hx hb d_MO_joins_156 rfl (lv_at hl 3 rfl) ?_
                  refine lv_iload_n hx hb d_MO_joins_157 rfl (lv_at hl 4 rfl) ?_
                  refine lv_iconst (v := 0) hx hb d_MO_joins_158 (by decide) ?_
                  refine lk_goi (lk_runV (As := [.int (nI t), .int 0]) (C := R_MO) X h (c_MO_finish l D τ ad _ t ht 0) ⟨gc_MO_finish, gm_MO_126, gn_MO, gd_MO_finish, by decide, by decide⟩ gi_MO_finish gs_MO_finish ⟨0, 4, _, _, _, lk_w_get (by decide), rfl⟩ rfl hl.1 (Nat.le_of_ble_eq_true rfl) d_MO_joins_159 ⟨Nat.zero_le _, Nat.zero_le _⟩) h hA (fun r159 σ159 H locs hk9 h => ?_)
                  rw [hk9.2] at h
                  rw [hk9.1]
                  exact lk_reti X h d_MO_joins_162 (by rw [mm_joins, if_neg (show ¬ (M 0 x ≠ 1 ∨ ¬ c < n ∨ n = 1) from fun z => z.elim (fun q => q h1) (fun q => q.elim (fun q => q hcn) h3)), if_neg (show ¬ (M 6 a ≠ -1 ∨ M 6 b ≠ -1) from fun z => z.elim (fun q => q h5) (fun q => q h6)), if_pos (Or.inl h7)]; exact ⟨rfl, rfl⟩)
                · refine lv_aload_n hx hb d_MO_joins_134 rfl (lv_at hl 3 rfl) ?_
                  refine mo_get X rfl h 4 (by decide) rfl gf_MO_19 rfl d_MO_joins_135 ?_
                  refine lv_iload hx hb d_MO_joins_138 (lv_at hl 0 rfl) ?_
                  refine mo_ald X h 3 24 rfl (by decide) (j := b) (by omega) (by decide) d_MO_joins_140 ?_
                  refine lv_aload_n hx hb d_MO_joins_141 rfl (lv_at hl 3 rfl) ?_
                  refine mo_get X rfl h 8 (by decide) rfl gf_MO_31 rfl d_MO_joins_142 ?_
                  refine lv_iconst (v := nI 5) hx hb d_MO_joins_145 (by decide) ?_
                  refine lv_iload_n hx hb d_MO_joins_146 rfl (lv_at hl 5 rfl) ?_
                  refine lk_imulN hx hb d_MO_joins_147 ?_
                  refine lv_iload_n hx hb d_MO_joins_148 rfl (lv_at hl 2 rfl) ?_
                  refine lk_iaddN hx hb d_MO_joins_149 ?_
                  refine lv_iconst (v := nI 1) hx hb d_MO_joins_150 (by decide) ?_
                  refine lk_iaddN hx hb d_MO_joins_151 ?_
                  refine mo_ald X h 7 120 rfl (by decide) (j := 5 * p + i + 1) (by omega) (by decide) d_MO_joins_152 ?_
                  refine lv_icmp_eq (tgt := 163) hx hb d_MO_joins_153 (by decide) (fun h8 => ?_) (fun h8 => ?_)
                  · refine lv_aload_n hx hb d_MO_joins_163 rfl (lv_at hl 3 rfl) ?_
                    refine mo_get X rfl h 6 (by decide) rfl gf_MO_25 rfl d_MO_joins_164 ?_
                    refine lv_iload hx hb d_MO_joins_167 (lv_at hl 1 rfl) ?_
                    refine mo_ald X h 5 24 rfl (by decide) (j := a) (by omega) (by decide) d_MO_joins_169 ?_
                    refine lk_top (nI na) (h5a) ?_
                    refine lv_aload_n hx hb d_MO_joins_170 rfl (lv_at hl 3 rfl) ?_
                    refine mo_get X rfl h 6 (by decide) rfl gf_MO_25 rfl d_MO_joins_171 ?_
                    refine lv_iload hx hb d_MO_joins_174 (lv_at hl 0 rfl) ?_
                    refine mo_ald X h 5 24 rfl (by decide) (j := b) (by omega) (by decide) d_MO_joins_176 ?_
                    refine lk_top (nI nb) (h5b) ?_
                    refine lk_iaddN hx hb d_MO_joins_177 ?_
                    refine lv_iconst (v := nI 4) hx hb d_MO_joins_178 (by decide) ?_
                    refine lk_cN_le (tgt := 210) hx hb (by omega) (by omega) d_MO_joins_179 (by decide) (fun h9 => ?_) (fun h9 => ?_)
                    · refine lv_iconst (v := nI 5) hx hb d_MO_joins_210 (by decide) ?_
                      refine lv_iload hx hb d_MO_joins_211 (lv_at hl 0 rfl) ?_
                      refine lk_imulN hx hb d_MO_joins_213 ?_
                      refine lv_istore hx hb d_MO_joins_214 hl (by decide) rfl (fun ls hl => ?_)
                      have hl : lv_has ls 7 [(6, .int (nI (5 * b))), (5, .int (nI b)), (4, .int (nI a)), (3, .int (nI i)), (0, .ref (ad 0)), (1, .int (nI t)), (2, .int (nI p))] := hl
                      refine w_MO_joins X hA (by decide) ha hb2 hab h5a h5b h9 nb 0 (by omega) _ _ ls h hl (fun H locs ls h hl => ?_)
                      refine lv_aload_n hx hb d_MO_joins_259 rfl (lv_at hl 4 rfl) ?_
                      refine mo_get X rfl h 4 (by decide) rfl gf_MO_19 rfl d_MO_joins_260 ?_
                      refine lv_iload hx hb d_MO_joins_263 (lv_at hl 2 rfl) ?_
                      refine lv_aload_n hx hb d_MO_joins_265 rfl (lv_at hl 4 rfl) ?_
                      refine mo_get X rfl h 4 (by decide) rfl gf_MO_19 rfl d_MO_joins_266 ?_
                      refine lv_iload hx hb d_MO_joins_269 (lv_at hl 1 rfl) ?_
                      refine mo_ald X h 3 24 rfl (by decide) (j := b) (by omega) (by decide) d_MO_joins_271 ?_
                      refine lk_top (M 3 b) (lk_apL_f M a b na (by decide) (by decide) (by decide) nb) ?_
                      refine mo_ast X h 3 24 rfl (by decide) (j := a) (v := M 3 b) (by omega) (by decide) d_MO_joins_272 (fun H locs h => ?_)
                      refine lv_aload_n hx hb d_MO_joins_273 rfl (lv_at hl 4 rfl) ?_
                      refine mo_get X rfl h 5 (by decide) rfl gf_MO_22 rfl d_MO_joins_274 ?_
                      refine lv_iload hx hb d_MO_joins_277 (lv_at hl 2 rfl) ?_
                      refine lv_aload_n hx hb d_MO_joins_279 rfl (lv_at hl 4 rfl) ?_
                      refine mo_get X rfl h 5 (by decide) rfl gf_MO_22 rfl d_MO_joins_280 ?_
                      refine lv_iload hx hb d_MO_joins_283 (lv_at hl 1 rfl) ?_
                      refine mo_ald X h 4 24 rfl (by decide) (j := b) (by omega) (by decide) d_MO_joins_285 ?_
                      refine lk_top (M 4 b) ((lk_st_f (by decide)).trans (lk_apL_f M a b na (by decide) (by decide) (by decide) nb)) ?_
                      refine mo_ast X h 4 24 rfl (by decide) (j := a) (v := M 4 b) (by omega) (by decide) d_MO_joins_286 (fun H locs h => ?_)
                      refine lv_aload_n hx hb d_MO_joins_287 rfl (lv_at hl 4 rfl) ?_
                      refine lv_iload hx hb d_MO_joins_288 (lv_at hl 1 rfl) ?_
                      refine lv_iload_n hx hb d_MO_joins_290 rfl (lv_at hl 5 rfl) ?_
                      refine lk_gov (lk_runV (As := [.int (nI b), .int (nI t)]) (C := R_MO) X h (c_MO_die l D τ ad (lk_st (lk_st (lk_apL M a b na nb) 3 a (M 3 b)) 4 a (M 4 b)) b t nq hb2 ht ((lk_st_f (by decide)).trans ((lk_st_f (by decide)).trans ((lk_apL_f M a b na (by decide) (by decide) (by decide) nb).trans hq0))) hnq) ⟨gc_MO_die, gm_MO_198, gn_MO, gd_MO_die, by decide, by decide⟩ gi_MO_die gs_MO_die ⟨0, 4, _, _, _, lk_w_get (by decide), rfl⟩ rfl hl.1 (Nat.le_of_ble_eq_true rfl) d_MO_joins_291 ⟨Nat.zero_le _, Nat.zero_le _⟩) h hA (fun σ291 H locs hk9 h => ?_)
                      rw [hk9] at h
                      have hc5 : (mm_die (lk_st (lk_st (lk_apL M a b na nb) 3 a (M 3 b)) 4 a (M 4 b)) b t nq) 5 p = nI n := (mm_die_f (by decide) (by decide) (by decide) (by decide)).trans ((lk_st_f (by decide)).trans ((lk_st_f (by decide)).trans ((lk_apL_5 M a b na (Ne.symm hap) nb).trans hc)))
                      refine lv_aload_n hx hb d_MO_joins_294 rfl (lv_at hl 4 rfl) ?_
                      refine lv_iload_n hx hb d_MO_joins_295 rfl (lv_at hl 6 rfl) ?_
                      refine lv_iload_n hx hb d_MO_joins_296 rfl (lv_at hl 3 rfl) ?_
                      refine lk_gov (lk_runV (As := [.int (nI p), .int (nI i)]) (C := R_MO) X h (c_MO_takeOut l D τ ad _ p i n hp hc5 (by omega) (by omega)) ⟨gc_MO_takeOut, gm_MO_186, gn_MO, gd_MO_takeOut, by decide, by decide⟩ gi_MO_takeOut gs_MO_takeOut ⟨0, 4, _, _, _, lk_w_get (by decide), rfl⟩ rfl hl.1 (Nat.le_of_ble_eq_true rfl) d_MO_joins_297 ⟨Nat.zero_le _, Nat.zero_le _⟩) h hA (fun σ297 H locs hk9 h => ?_)
                      rw [hk9] at h
                      refine lv_aload_n hx hb d_MO_joins_300 rfl (lv_at hl 4 rfl) ?_
                      refine mo_get X rfl h 9 (by decide) rfl gf_MO_34 rfl d_MO_joins_301 ?_
                      refine lv_iconst (v := nI 5) hx hb d_MO_joins_304 (by decide) ?_
                      refine lv_iload_n hx hb d_MO_joins_305 rfl (lv_at hl 6 rfl) ?_
                      refine lk_imulN hx hb d_MO_joins_306 ?_
                      refine lv_iload_n hx hb d_MO_joins_307 rfl (lv_at hl 3 rfl) ?_
                      refine lk_iaddN hx hb d_MO_joins_308 ?_
                      refine lv_iload hx hb d_MO_joins_309 (lv_at hl 2 rfl) ?_
                      refine mo_ast X h 8 120 rfl (by decide) (j := 5 * p + i) (v := nI a) (by omega) (by decide) d_MO_joins_311 (fun H locs h => ?_)
                      refine lv_aload_n hx hb d_MO_joins_312 rfl (lv_at hl 4 rfl) ?_
                      refine mo_get X rfl h 6 (by decide) rfl gf_MO_25 rfl d_MO_joins_313 ?_
                      refine lv_iload_n hx hb d_MO_joins_316 rfl (lv_at hl 6 rfl) ?_
                      refine mo_ald X h 5 24 rfl (by decide) (j := p) (by omega) (by decide) d_MO_joins_317 ?_
                      refine lk_top (nI (n - 1)) ((lk_st_f (by decide)).trans (lk_del_5.trans (if_pos rfl))) ?_
                      refine lv_iconst (v := nI 1) hx hb d_MO_joins_318 (by decide) ?_
                      refine lk_cN_ne (tgt := 328) hx hb (by omega) (by omega) d_MO_joins_319 (by decide) (fun h10 => ?_) (fun h10 => ?_)
                      · refine lv_aload_n hx hb d_MO_joins_328 rfl (lv_at hl 4 rfl) ?_
                        refine lv_iload_n hx hb d_MO_joins_329 rfl (lv_at hl 5 rfl) ?_
                        refine lv_iconst (v := 1) hx hb d_MO_joins_330 (by decide) ?_
                        refine lk_goi (lk_runV (As := [.int (nI t), .int 1]) (C := R_MO) X h (c_MO_finish l D τ ad _ t ht 1) ⟨gc_MO_finish, gm_MO_126, gn_MO, gd_MO_finish, by decide, by decide⟩ gi_MO_finish gs_MO_finish ⟨0, 4, _, _, _, lk_w_get (by decide), rfl⟩ rfl hl.1 (Nat.le_of_ble_eq_true rfl) d_MO_joins_331 ⟨Nat.zero_le _, Nat.zero_le _⟩) h hA (fun r331 σ331 H locs hk9 h => ?_)
                        rw [hk9.2] at h
                        rw [hk9.1]
                        exact lk_reti X h d_MO_joins_334 (by rw [mm_joins, if_neg (show ¬ (M 0 x ≠ 1 ∨ ¬ c < n ∨ n = 1) from fun z => z.elim (fun q => q h1) (fun q => q.elim (fun q => q hcn) h3)), if_neg (show ¬ (M 6 a ≠ -1 ∨ M 6 b ≠ -1) from fun z => z.elim (fun q => q h5) (fun q => q h6)), if_neg (show ¬ (M 3 a ≠ M 7 (5 * p + i) ∨ M 3 b ≠ M 7 (5 * p + i + 1)) from fun z => z.elim (fun q => q h7) (fun q => q h8)), if_neg (show ¬ 4 < na + nb by omega), mm_merge, if_neg h10]; exact ⟨rfl, rfl⟩)
                      · have hq9 : (lk_cmp (M 10) (nI b) nq).2 ≤ 12 := Nat.le_trans (lk_cmp_le _ _ _) hnq
                        have e10 : (lk_st (lk_st (lk_apL M a b na nb) 3 a (M 3 b)) 4 a (M 4 b)) 10 = M 10 := by funext z; exact (lk_st_f (by decide)).trans ((lk_st_f (by decide)).trans (lk_apL_f M a b na (by decide) (by decide) (by decide) nb))
                        refine lv_aload_n hx hb d_MO_joins_322 rfl (lv_at hl 4 rfl) ?_
                        refine lv_iload_n hx hb d_MO_joins_323 rfl (lv_at hl 5 rfl) ?_
                        refine lv_iload_n hx hb d_MO_joins_324 rfl (lv_at hl 6 rfl) ?_
                        refine lk_gov (lk_runV (As := [.int (nI t), .int (nI p)]) (C := R_MO) X h (c_MO_shrinks l D τ ad _ t p rt (lk_cmp (M 10) (nI b) nq).2 ht hp hrt ((lk_st_f (by decide)).trans ((lk_del_f (by decide) (by decide) (by decide)).trans (mm_die_r.trans ((lk_st_f (by decide)).trans ((lk_st_f (by decide)).trans ((lk_apL_f M a b na (by decide) (by decide) (by decide) nb).trans hr0)))))) hq9 ((lk_st_f (by decide)).trans ((lk_del_f (by decide) (by decide) (by decide)).trans (mm_die_q.trans (by rw [e10]))))) ⟨gc_MO_shrinks, gm_MO_201, gn_MO, gd_MO_shrinks, by decide, by decide⟩ gi_MO_shrinks gs_MO_shrinks ⟨0, 4, _, _, _, lk_w_get (by decide), rfl⟩ rfl hl.1 (Nat.le_of_ble_eq_true rfl) d_MO_joins_325 ⟨Nat.zero_le _, Nat.zero_le _⟩) h hA (fun σ325 H locs hk9 h => ?_)
                        rw [hk9] at h
                        refine lv_aload_n hx hb d_MO_joins_328 rfl (lv_at hl 4 rfl) ?_
                        refine lv_iload_n hx hb d_MO_joins_329 rfl (lv_at hl 5 rfl) ?_
                        refine lv_iconst (v := 1) hx hb d_MO_joins_330 (by decide) ?_
                        refine lk_goi (lk_runV (As := [.int (nI t), .int 1]) (C := R_MO) X h (c_MO_finish l D τ ad _ t ht 1) ⟨gc_MO_finish, gm_MO_126, gn_MO, gd_MO_finish, by decide, by decide⟩ gi_MO_finish gs_MO_finish ⟨0, 4, _, _, _, lk_w_get (by decide), rfl⟩ rfl hl.1 (Nat.le_of_ble_eq_true rfl) d_MO_joins_331 ⟨Nat.zero_le _, Nat.zero_le _⟩) h hA (fun r331 σ331 H locs hk9 h => ?_)
                        rw [hk9.2] at h
                        rw [hk9.1]
                        exact lk_reti X h d_MO_joins_334 (by rw [mm_joins, if_neg (show ¬ (M 0 x ≠ 1 ∨ ¬ c < n ∨ n = 1) from fun z => z.elim (fun q => q h1) (fun q => q.elim (fun q => q hcn) h3)), if_neg (show ¬ (M 6 a ≠ -1 ∨ M 6 b ≠ -1) from fun z => z.elim (fun q => q h5) (fun q => q h6)), if_neg (show ¬ (M 3 a ≠ M 7 (5 * p + i) ∨ M 3 b ≠ M 7 (5 * p + i + 1)) from fun z => z.elim (fun q => q h7) (fun q => q h8)), if_neg (show ¬ 4 < na + nb by omega), mm_merge, if_pos h10]; exact ⟨rfl, rfl⟩)
                    · refine lv_aload_n hx hb d_MO_joins_182 rfl (lv_at hl 3 rfl) ?_
                      refine lv_iload hx hb d_MO_joins_183 (lv_at hl 1 rfl) ?_
                      refine lv_iload hx hb d_MO_joins_185 (lv_at hl 0 rfl) ?_
                      refine lk_gov (lk_runV (As := [.int (nI a), .int (nI b)]) (C := R_MO) X h (c_MO_balance l D τ ad M a b na nb ha hb2 hab h5a h5b hna hnb (by omega)) ⟨gc_MO_balance, gm_MO_195, gn_MO, gd_MO_balance, by decide, by decide⟩ gi_MO_balance gs_MO_balance ⟨0, 4, _, _, _, lk_w_get (by decide), rfl⟩ rfl hl.1 (Nat.le_of_ble_eq_true rfl) d_MO_joins_187 ⟨Nat.zero_le _, Nat.zero_le _⟩) h hA (fun σ187 H locs hk9 h => ?_)
                      rw [hk9] at h
                      refine lv_aload_n hx hb d_MO_joins_190 rfl (lv_at hl 3 rfl) ?_
                      refine mo_get X rfl h 8 (by decide) rfl gf_MO_31 rfl d_MO_joins_191 ?_
                      refine lv_iconst (v := nI 5) hx hb d_MO_joins_194 (by decide) ?_
                      refine lv_iload_n hx hb d_MO_joins_195 rfl (lv_at hl 5 rfl) ?_
                      refine lk_imulN hx hb d_MO_joins_196 ?_
                      refine lv_iload_n hx hb d_MO_joins_197 rfl (lv_at hl 2 rfl) ?_
                      refine lk_iaddN hx hb d_MO_joins_198 ?_
                      refine lv_aload_n hx hb d_MO_joins_199 rfl (lv_at hl 3 rfl) ?_
                      refine mo_get X rfl h 4 (by decide) rfl gf_MO_19 rfl d_MO_joins_200 ?_
                      refine lv_iload hx hb d_MO_joins_203 (lv_at hl 1 rfl) ?_
                      refine mo_ald X h 3 24 rfl (by decide) (j := a) (by omega) (by decide) d_MO_joins_205 ?_
                      refine lk_top (lk_shr M a b na nb 7 (5 * a + (na + nb + 1) / 2 - 1)) ((lk_st_f (by decide)).trans lk_st_s) ?_
                      refine mo_ast X h 7 120 rfl (by decide) (j := 5 * p + i) (v := lk_shr M a b na nb 7 (5 * a + (na + nb + 1) / 2 - 1)) (by omega) (by decide) d_MO_joins_206 (fun H locs h => ?_)
                      refine lv_goto (tgt := 328) hx hb d_MO_joins_207 (by decide) ?_
                      refine lv_aload_n hx hb d_MO_joins_328 rfl (lv_at hl 3 rfl) ?_
                      refine lv_iload_n hx hb d_MO_joins_329 rfl (lv_at hl 4 rfl) ?_
                      refine lv_iconst (v := 1) hx hb d_MO_joins_330 (by decide) ?_
                      refine lk_goi (lk_runV (As := [.int (nI t), .int 1]) (C := R_MO) X h (c_MO_finish l D τ ad _ t ht 1) ⟨gc_MO_finish, gm_MO_126, gn_MO, gd_MO_finish, by decide, by decide⟩ gi_MO_finish gs_MO_finish ⟨0, 4, _, _, _, lk_w_get (by decide), rfl⟩ rfl hl.1 (Nat.le_of_ble_eq_true rfl) d_MO_joins_331 ⟨Nat.zero_le _, Nat.zero_le _⟩) h hA (fun r331 σ331 H locs hk9 h => ?_)
                      rw [hk9.2] at h
                      rw [hk9.1]
                      exact lk_reti X h d_MO_joins_334 (by rw [mm_joins, if_neg (show ¬ (M 0 x ≠ 1 ∨ ¬ c < n ∨ n = 1) from fun z => z.elim (fun q => q h1) (fun q => q.elim (fun q => q hcn) h3)), if_neg (show ¬ (M 6 a ≠ -1 ∨ M 6 b ≠ -1) from fun z => z.elim (fun q => q h5) (fun q => q h6)), if_neg (show ¬ (M 3 a ≠ M 7 (5 * p + i) ∨ M 3 b ≠ M 7 (5 * p + i + 1)) from fun z => z.elim (fun q => q h7) (fun q => q h8)), if_pos h9]; exact ⟨rfl, rfl⟩)
                  · refine lv_aload_n hx hb d_MO_joins_156 rfl (lv_at hl 3 rfl) ?_
                    refine lv_iload_n hx hb d_MO_joins_157 rfl (lv_at hl 4 rfl) ?_
                    refine lv_iconst (v := 0) hx hb d_MO_joins_158 (by decide) ?_
                    refine lk_goi (lk_runV (As := [.int (nI t), .int 0]) (C := R_MO) X h (c_MO_finish l D τ ad _ t ht 0) ⟨gc_MO_finish, gm_MO_126, gn_MO, gd_MO_finish, by decide, by decide⟩ gi_MO_finish gs_MO_finish ⟨0, 4, _, _, _, lk_w_get (by decide), rfl⟩ rfl hl.1 (Nat.le_of_ble_eq_true rfl) d_MO_joins_159 ⟨Nat.zero_le _, Nat.zero_le _⟩) h hA (fun r159 σ159 H locs hk9 h => ?_)
                    rw [hk9.2] at h
                    rw [hk9.1]
                    exact lk_reti X h d_MO_joins_162 (by rw [mm_joins, if_neg (show ¬ (M 0 x ≠ 1 ∨ ¬ c < n ∨ n = 1) from fun z => z.elim (fun q => q h1) (fun q => q.elim (fun q => q hcn) h3)), if_neg (show ¬ (M 6 a ≠ -1 ∨ M 6 b ≠ -1) from fun z => z.elim (fun q => q h5) (fun q => q h6)), if_pos (Or.inr h8)]; exact ⟨rfl, rfl⟩)
              · refine lv_iconst (v := 1) hx hb d_MO_joins_112 (by decide) ?_
                exact lk_reti X h d_MO_joins_113 (by rw [mm_joins, if_neg (show ¬ (M 0 x ≠ 1 ∨ ¬ c < n ∨ n = 1) from fun z => z.elim (fun q => q h1) (fun q => q.elim (fun q => q hcn) h3)), if_pos (Or.inr h6)]; exact ⟨rfl, rfl⟩)
          · have ei : c - 1 = i := by rw [← hji]; exact (if_pos (by omega)).symm
            refine lv_iinc (k := 0) (v := nI i) hx hb d_MO_joins_61 hl rfl (by rw [← ei]; exact sb_m1 (by omega)) (by decide) rfl (fun ls hl => ?_)
            have hl : lv_has ls 7 [(3, .int (nI i)), (0, .ref (ad 0)), (1, .int (nI t)), (2, .int (nI p))] := hl
            refine lv_aload_n hx hb d_MO_joins_64 rfl (lv_at hl 1 rfl) ?_
            refine mo_get X rfl h 9 (by decide) rfl gf_MO_34 rfl d_MO_joins_65 ?_
            refine lv_iconst (v := nI 5) hx hb d_MO_joins_68 (by decide) ?_
            refine lv_iload_n hx hb d_MO_joins_69 rfl (lv_at hl 3 rfl) ?_
            refine lk_imulN hx hb d_MO_joins_70 ?_
            refine lv_iload_n hx hb d_MO_joins_71 rfl (lv_at hl 0 rfl) ?_
            refine lk_iaddN hx hb d_MO_joins_72 ?_
            refine mo_ald X h 8 120 rfl (by decide) (j := 5 * p + i) (by omega) (by decide) d_MO_joins_73 ?_
            refine lk_top (nI a) (p1) ?_
            refine lv_istore hx hb d_MO_joins_74 hl (by decide) rfl (fun ls hl => ?_)
            have hl : lv_has ls 7 [(4, .int (nI a)), (3, .int (nI i)), (0, .ref (ad 0)), (1, .int (nI t)), (2, .int (nI p))] := hl
            refine lv_aload_n hx hb d_MO_joins_76 rfl (lv_at hl 2 rfl) ?_
            refine mo_get X rfl h 9 (by decide) rfl gf_MO_34 rfl d_MO_joins_77 ?_
            refine lv_iconst (v := nI 5) hx hb d_MO_joins_80 (by decide) ?_
            refine lv_iload_n hx hb d_MO_joins_81 rfl (lv_at hl 4 rfl) ?_
            refine lk_imulN hx hb d_MO_joins_82 ?_
            refine lv_iload_n hx hb d_MO_joins_83 rfl (lv_at hl 1 rfl) ?_
            refine lk_iaddN hx hb d_MO_joins_84 ?_
            refine lv_iconst (v := nI 1) hx hb d_MO_joins_85 (by decide) ?_
            refine lk_iaddN hx hb d_MO_joins_86 ?_
            refine mo_ald X h 8 120 rfl (by decide) (j := 5 * p + i + 1) (by omega) (by decide) d_MO_joins_87 ?_
            refine lk_top (nI b) (p2) ?_
            refine lv_istore hx hb d_MO_joins_88 hl (by decide) rfl (fun ls hl => ?_)
            have hl : lv_has ls 7 [(5, .int (nI b)), (4, .int (nI a)), (3, .int (nI i)), (0, .ref (ad 0)), (1, .int (nI t)), (2, .int (nI p))] := hl
            refine lv_aload_n hx hb d_MO_joins_90 rfl (lv_at hl 3 rfl) ?_
            refine mo_get X rfl h 7 (by decide) rfl gf_MO_28 rfl d_MO_joins_91 ?_
            refine lv_iload hx hb d_MO_joins_94 (lv_at hl 1 rfl) ?_
            refine mo_ald X h 6 24 rfl (by decide) (j := a) (by omega) (by decide) d_MO_joins_96 ?_
            refine lv_iconst (v := (-1)) hx hb d_MO_joins_97 (by decide) ?_
            refine lv_icmp_ne (tgt := 112) hx hb d_MO_joins_98 (by decide) (fun h5 => ?_) (fun h5 => ?_)
            · refine lv_iconst (v := 1) hx hb d_MO_joins_112 (by decide) ?_
              exact lk_reti X h d_MO_joins_113 (by rw [mm_joins, if_neg (show ¬ (M 0 x ≠ 1 ∨ ¬ c < n ∨ n = 1) from fun z => z.elim (fun q => q h1) (fun q => q.elim (fun q => q hcn) h3)), if_pos (Or.inl h5)]; exact ⟨rfl, rfl⟩)
            · refine lv_aload_n hx hb d_MO_joins_101 rfl (lv_at hl 3 rfl) ?_
              refine mo_get X rfl h 7 (by decide) rfl gf_MO_28 rfl d_MO_joins_102 ?_
              refine lv_iload hx hb d_MO_joins_105 (lv_at hl 0 rfl) ?_
              refine mo_ald X h 6 24 rfl (by decide) (j := b) (by omega) (by decide) d_MO_joins_107 ?_
              refine lv_iconst (v := (-1)) hx hb d_MO_joins_108 (by decide) ?_
              refine lv_icmp_eq (tgt := 114) hx hb d_MO_joins_109 (by decide) (fun h6 => ?_) (fun h6 => ?_)
              · refine lv_aload_n hx hb d_MO_joins_114 rfl (lv_at hl 3 rfl) ?_
                refine mo_get X rfl h 4 (by decide) rfl gf_MO_19 rfl d_MO_joins_115 ?_
                refine lv_iload hx hb d_MO_joins_118 (lv_at hl 1 rfl) ?_
                refine mo_ald X h 3 24 rfl (by decide) (j := a) (by omega) (by decide) d_MO_joins_120 ?_
                refine lv_aload_n hx hb d_MO_joins_121 rfl (lv_at hl 3 rfl) ?_
                refine mo_get X rfl h 8 (by decide) rfl gf_MO_31 rfl d_MO_joins_122 ?_
                refine lv_iconst (v := nI 5) hx hb d_MO_joins_125 (by decide) ?_
                refine lv_iload_n hx hb d_MO_joins_126 rfl (lv_at hl 5 rfl) ?_
                refine lk_imulN hx hb d_MO_joins_127 ?_
                refine lv_iload_n hx hb d_MO_joins_128 rfl (lv_at hl 2 rfl) ?_
                refine lk_iaddN hx hb d_MO_joins_129 ?_
                refine mo_ald X h 7 120 rfl (by decide) (j := 5 * p + i) (by omega) (by decide) d_MO_joins_130 ?_
                refine lv_icmp_ne (tgt := 156) hx hb d_MO_joins_131 (by decide) (fun h7 => ?_) (fun h7 => ?_)
                · refine lv_aload_n hx hb d_MO_joins_156 rfl (lv_at hl 3 rfl) ?_
                  refine lv_iload_n hx hb d_MO_joins_157 rfl (lv_at hl 4 rfl) ?_
                  refine lv_iconst (v := 0) hx hb d_MO_joins_158 (by decide) ?_
                  refine lk_goi (lk_runV (As := [.int (nI t), .int 0]) (C := R_MO) X h (c_MO_finish l D τ ad _ t ht 0) ⟨gc_MO_finish, gm_MO_126, gn_MO, gd_MO_finish, by decide, by decide⟩ gi_MO_finish gs_MO_finish ⟨0, 4, _, _, _, lk_w_get (by decide), rfl⟩ rfl hl.1 (Nat.le_of_ble_eq_true rfl) d_MO_joins_159 ⟨Nat.zero_le _, Nat.zero_le _⟩) h hA (fun r159 σ159 H locs hk9 h => ?_)
                  rw [hk9.2] at h
                  rw [hk9.1]
                  exact lk_reti X h d_MO_joins_162 (by rw [mm_joins, if_neg (show ¬ (M 0 x ≠ 1 ∨ ¬ c < n ∨ n = 1) from fun z => z.elim (fun q => q h1) (fun q => q.elim (fun q => q hcn) h3)), if_neg (show ¬ (M 6 a ≠ -1 ∨ M 6 b ≠ -1) from fun z => z.elim (fun q => q h5) (fun q => q h6)), if_pos (Or.inl h7)]; exact ⟨rfl, rfl⟩)
                · refine lv_aload_n hx hb d_MO_joins_134 rfl (lv_at hl 3 rfl) ?_
                  refine mo_get X rfl h 4 (by decide) rfl gf_MO_19 rfl d_MO_joins_135 ?_
                  refine lv_iload hx hb d_MO_joins_138 (lv_at hl 0 rfl) ?_
                  refine mo_ald X h 3 24 rfl (by decide) (j := b) (by omega) (by decide) d_MO_joins_140 ?_
                  refine lv_aload_n hx hb d_MO_joins_141 rfl (lv_at hl 3 rfl) ?_
                  refine mo_get X rfl h 8 (by decide) rfl gf_MO_31 rfl d_MO_joins_142 ?_
                  refine lv_iconst (v := nI 5) hx hb d_MO_joins_145 (by decide) ?_
                  refine lv_iload_n hx hb d_MO_joins_146 rfl (lv_at hl 5 rfl) ?_
                  refine lk_imulN hx hb d_MO_joins_147 ?_
                  refine lv_iload_n hx hb d_MO_joins_148 rfl (lv_at hl 2 rfl) ?_
                  refine lk_iaddN hx hb d_MO_joins_149 ?_
                  refine lv_iconst (v := nI 1) hx hb d_MO_joins_150 (by decide) ?_
                  refine lk_iaddN hx hb d_MO_joins_151 ?_
                  refine mo_ald X h 7 120 rfl (by decide) (j := 5 * p + i + 1) (by omega) (by decide) d_MO_joins_152 ?_
                  refine lv_icmp_eq (tgt := 163) hx hb d_MO_joins_153 (by decide) (fun h8 => ?_) (fun h8 => ?_)
                  · refine lv_aload_n hx hb d_MO_joins_163 rfl (lv_at hl 3 rfl) ?_
                    refine mo_get X rfl h 6 (by decide) rfl gf_MO_25 rfl d_MO_joins_164 ?_
                    refine lv_iload hx hb d_MO_joins_167 (lv_at hl 1 rfl) ?_
                    refine mo_ald X h 5 24 rfl (by decide) (j := a) (by omega) (by decide) d_MO_joins_169 ?_
                    refine lk_top (nI na) (h5a) ?_
                    refine lv_aload_n hx hb d_MO_joins_170 rfl (lv_at hl 3 rfl) ?_
                    refine mo_get X rfl h 6 (by decide) rfl gf_MO_25 rfl d_MO_joins_171 ?_
                    refine lv_iload hx hb d_MO_joins_174 (lv_at hl 0 rfl) ?_
                    refine mo_ald X h 5 24 rfl (by decide) (j := b) (by omega) (by decide) d_MO_joins_176 ?_
                    refine lk_top (nI nb) (h5b) ?_
                    refine lk_iaddN hx hb d_MO_joins_177 ?_
                    refine lv_iconst (v := nI 4) hx hb d_MO_joins_178 (by decide) ?_
                    refine lk_cN_le (tgt := 210) hx hb (by omega) (by omega) d_MO_joins_179 (by decide) (fun h9 => ?_) (fun h9 => ?_)
                    · refine lv_iconst (v := nI 5) hx hb d_MO_joins_210 (by decide) ?_
                      refine lv_iload hx hb d_MO_joins_211 (lv_at hl 0 rfl) ?_
                      refine lk_imulN hx hb d_MO_joins_213 ?_
                      refine lv_istore hx hb d_MO_joins_214 hl (by decide) rfl (fun ls hl => ?_)
                      have hl : lv_has ls 7 [(6, .int (nI (5 * b))), (5, .int (nI b)), (4, .int (nI a)), (3, .int (nI i)), (0, .ref (ad 0)), (1, .int (nI t)), (2, .int (nI p))] := hl
                      refine w_MO_joins X hA (by decide) ha hb2 hab h5a h5b h9 nb 0 (by omega) _ _ ls h hl (fun H locs ls h hl => ?_)
                      refine lv_aload_n hx hb d_MO_joins_259 rfl (lv_at hl 4 rfl) ?_
                      refine mo_get X rfl h 4 (by decide) rfl gf_MO_19 rfl d_MO_joins_260 ?_
                      refine lv_iload hx hb d_MO_joins_263 (lv_at hl 2 rfl) ?_
                      refine lv_aload_n hx hb d_MO_joins_265 rfl (lv_at hl 4 rfl) ?_
                      refine mo_get X rfl h 4 (by decide) rfl gf_MO_19 rfl d_MO_joins_266 ?_
                      refine lv_iload hx hb d_MO_joins_269 (lv_at hl 1 rfl) ?_
                      refine mo_ald X h 3 24 rfl (by decide) (j := b) (by omega) (by decide) d_MO_joins_271 ?_
                      refine lk_top (M 3 b) (lk_apL_f M a b na (by decide) (by decide) (by decide) nb) ?_
                      refine mo_ast X h 3 24 rfl (by decide) (j := a) (v := M 3 b) (by omega) (by decide) d_MO_joins_272 (fun H locs h => ?_)
                      refine lv_aload_n hx hb d_MO_joins_273 rfl (lv_at hl 4 rfl) ?_
                      refine mo_get X rfl h 5 (by decide) rfl gf_MO_22 rfl d_MO_joins_274 ?_
                      refine lv_iload hx hb d_MO_joins_277 (lv_at hl 2 rfl) ?_
                      refine lv_aload_n hx hb d_MO_joins_279 rfl (lv_at hl 4 rfl) ?_
                      refine mo_get X rfl h 5 (by decide) rfl gf_MO_22 rfl d_MO_joins_280 ?_
                      refine lv_iload hx hb d_MO_joins_283 (lv_at hl 1 rfl) ?_
                      refine mo_ald X h 4 24 rfl (by decide) (j := b) (by omega) (by decide) d_MO_joins_285 ?_
                      refine lk_top (M 4 b) ((lk_st_f (by decide)).trans (lk_apL_f M a b na (by decide) (by decide) (by decide) nb)) ?_
                      refine mo_ast X h 4 24 rfl (by decide) (j := a) (v := M 4 b) (by omega) (by decide) d_MO_joins_286 (fun H locs h => ?_)
                      refine lv_aload_n hx hb d_MO_joins_287 rfl (lv_at hl 4 rfl) ?_
                      refine lv_iload hx hb d_MO_joins_288 (lv_at hl 1 rfl) ?_
                      refine lv_iload_n hx hb d_MO_joins_290 rfl (lv_at hl 5 rfl) ?_
                      refine lk_gov (lk_runV (As := [.int (nI b), .int (nI t)]) (C := R_MO) X h (c_MO_die l D τ ad (lk_st (lk_st (lk_apL M a b na nb) 3 a (M 3 b)) 4 a (M 4 b)) b t nq hb2 ht ((lk_st_f (by decide)).trans ((lk_st_f (by decide)).trans ((lk_apL_f M a b na (by decide) (by decide) (by decide) nb).trans hq0))) hnq) ⟨gc_MO_die, gm_MO_198, gn_MO, gd_MO_die, by decide, by decide⟩ gi_MO_die gs_MO_die ⟨0, 4, _, _, _, lk_w_get (by decide), rfl⟩ rfl hl.1 (Nat.le_of_ble_eq_true rfl) d_MO_joins_291 ⟨Nat.zero_le _, Nat.zero_le _⟩) h hA (fun σ291 H locs hk9 h => ?_)
                      rw [hk9] at h
                      have hc5 : (mm_die (lk_st (lk_st (lk_apL M a b na nb) 3 a (M 3 b)) 4 a (M 4 b)) b t nq) 5 p = nI n := (mm_die_f (by decide) (by decide) (by decide) (by decide)).trans ((lk_st_f (by decide)).trans ((lk_st_f (by decide)).trans ((lk_apL_5 M a b na (Ne.symm hap) nb).trans hc)))
                      refine lv_aload_n hx hb d_MO_joins_294 rfl (lv_at hl 4 rfl) ?_
                      refine lv_iload_n hx hb d_MO_joins_295 rfl (lv_at hl 6 rfl) ?_
                      refine lv_iload_n hx hb d_MO_joins_296 rfl (lv_at hl 3 rfl) ?_
                      refine lk_gov (lk_runV (As := [.int (nI p), .int (nI i)]) (C := R_MO) X h (c_MO_takeOut l D τ ad _ p i n hp hc5 (by omega) (by omega)) ⟨gc_MO_takeOut, gm_MO_186, gn_MO, gd_MO_takeOut, by decide, by decide⟩ gi_MO_takeOut gs_MO_takeOut ⟨0, 4, _, _, _, lk_w_get (by decide), rfl⟩ rfl hl.1 (Nat.le_of_ble_eq_true rfl) d_MO_joins_297 ⟨Nat.zero_le _, Nat.zero_le _⟩) h hA (fun σ297 H locs hk9 h => ?_)
                      rw [hk9] at h
                      refine lv_aload_n hx hb d_MO_joins_300 rfl (lv_at hl 4 rfl) ?_
                      refine mo_get X rfl h 9 (by decide) rfl gf_MO_34 rfl d_MO_joins_301 ?_
                      refine lv_iconst (v := nI 5) hx hb d_MO_joins_304 (by decide) ?_
                      refine lv_iload_n hx hb d_MO_joins_305 rfl (lv_at hl 6 rfl) ?_
                      refine lk_imulN hx hb d_MO_joins_306 ?_
                      refine lv_iload_n hx hb d_MO_joins_307 rfl (lv_at hl 3 rfl) ?_
                      refine lk_iaddN hx hb d_MO_joins_308 ?_
                      refine lv_iload hx hb d_MO_joins_309 (lv_at hl 2 rfl) ?_
                      refine mo_ast X h 8 120 rfl (by decide) (j := 5 * p + i) (v := nI a) (by omega) (by decide) d_MO_joins_311 (fun H locs h => ?_)
                      refine lv_aload_n hx hb d_MO_joins_312 rfl (lv_at hl 4 rfl) ?_
                      refine mo_get X rfl h 6 (by decide) rfl gf_MO_25 rfl d_MO_joins_313 ?_
                      refine lv_iload_n hx hb d_MO_joins_316 rfl (lv_at hl 6 rfl) ?_
                      refine mo_ald X h 5 24 rfl (by decide) (j := p) (by omega) (by decide) d_MO_joins_317 ?_
                      refine lk_top (nI (n - 1)) ((lk_st_f (by decide)).trans (lk_del_5.trans (if_pos rfl))) ?_
                      refine lv_iconst (v := nI 1) hx hb d_MO_joins_318 (by decide) ?_
                      refine lk_cN_ne (tgt := 328) hx hb (by omega) (by omega) d_MO_joins_319 (by decide) (fun h10 => ?_) (fun h10 => ?_)
                      · refine lv_aload_n hx hb d_MO_joins_328 rfl (lv_at hl 4 rfl) ?_
                        refine lv_iload_n hx hb d_MO_joins_329 rfl (lv_at hl 5 rfl) ?_
                        refine lv_iconst (v := 1) hx hb d_MO_joins_330 (by decide) ?_
                        refine lk_goi (lk_runV (As := [.int (nI t), .int 1]) (C := R_MO) X h (c_MO_finish l D τ ad _ t ht 1) ⟨gc_MO_finish, gm_MO_126, gn_MO, gd_MO_finish, by decide, by decide⟩ gi_MO_finish gs_MO_finish ⟨0, 4, _, _, _, lk_w_get (by decide), rfl⟩ rfl hl.1 (Nat.le_of_ble_eq_true rfl) d_MO_joins_331 ⟨Nat.zero_le _, Nat.zero_le _⟩) h hA (fun r331 σ331 H locs hk9 h => ?_)
                        rw [hk9.2] at h
                        rw [hk9.1]
                        exact lk_reti X h d_MO_joins_334 (by rw [mm_joins, if_neg (show ¬ (M 0 x ≠ 1 ∨ ¬ c < n ∨ n = 1) from fun z => z.elim (fun q => q h1) (fun q => q.elim (fun q => q hcn) h3)), if_neg (show ¬ (M 6 a ≠ -1 ∨ M 6 b ≠ -1) from fun z => z.elim (fun q => q h5) (fun q => q h6)), if_neg (show ¬ (M 3 a ≠ M 7 (5 * p + i) ∨ M 3 b ≠ M 7 (5 * p + i + 1)) from fun z => z.elim (fun q => q h7) (fun q => q h8)), if_neg (show ¬ 4 < na + nb by omega), mm_merge, if_neg h10]; exact ⟨rfl, rfl⟩)
                      · have hq9 : (lk_cmp (M 10) (nI b) nq).2 ≤ 12 := Nat.le_trans (lk_cmp_le _ _ _) hnq
                        have e10 : (lk_st (lk_st (lk_apL M a b na nb) 3 a (M 3 b)) 4 a (M 4 b)) 10 = M 10 := by funext z; exact (lk_st_f (by decide)).trans ((lk_st_f (by decide)).trans (lk_apL_f M a b na (by decide) (by decide) (by decide) nb))
                        refine lv_aload_n hx hb d_MO_joins_322 rfl (lv_at hl 4 rfl) ?_
                        refine lv_iload_n hx hb d_MO_joins_323 rfl (lv_at hl 5 rfl) ?_
                        refine lv_iload_n hx hb d_MO_joins_324 rfl (lv_at hl 6 rfl) ?_
                        refine lk_gov (lk_runV (As := [.int (nI t), .int (nI p)]) (C := R_MO) X h (c_MO_shrinks l D τ ad _ t p rt (lk_cmp (M 10) (nI b) nq).2 ht hp hrt ((lk_st_f (by decide)).trans ((lk_del_f (by decide) (by decide) (by decide)).trans (mm_die_r.trans ((lk_st_f (by decide)).trans ((lk_st_f (by decide)).trans ((lk_apL_f M a b na (by decide) (by decide) (by decide) nb).trans hr0)))))) hq9 ((lk_st_f (by decide)).trans ((lk_del_f (by decide) (by decide) (by decide)).trans (mm_die_q.trans (by rw [e10]))))) ⟨gc_MO_shrinks, gm_MO_201, gn_MO, gd_MO_shrinks, by decide, by decide⟩ gi_MO_shrinks gs_MO_shrinks ⟨0, 4, _, _, _, lk_w_get (by decide), rfl⟩ rfl hl.1 (Nat.le_of_ble_eq_true rfl) d_MO_joins_325 ⟨Nat.zero_le _, Nat.zero_le _⟩) h hA (fun σ325 H locs hk9 h => ?_)
                        rw [hk9] at h
                        refine lv_aload_n hx hb d_MO_joins_328 rfl (lv_at hl 4 rfl) ?_
                        refine lv_iload_n hx hb d_MO_joins_329 rfl (lv_at hl 5 rfl) ?_
                        refine lv_iconst (v := 1) hx hb d_MO_joins_330 (by decide) ?_
                        refine lk_goi (lk_runV (As := [.int (nI t), .int 1]) (C := R_MO) X h (c_MO_finish l D τ ad _ t ht 1) ⟨gc_MO_finish, gm_MO_126, gn_MO, gd_MO_finish, by decide, by decide⟩ gi_MO_finish gs_MO_finish ⟨0, 4, _, _, _, lk_w_get (by decide), rfl⟩ rfl hl.1 (Nat.le_of_ble_eq_true rfl) d_MO_joins_331 ⟨Nat.zero_le _, Nat.zero_le _⟩) h hA (fun r331 σ331 H locs hk9 h => ?_)
                        rw [hk9.2] at h
                        rw [hk9.1]
                        exact lk_reti X h d_MO_joins_334 (by rw [mm_joins, if_neg (show ¬ (M 0 x ≠ 1 ∨ ¬ c < n ∨ n = 1) from fun z => z.elim (fun q => q h1) (fun q => q.elim (fun q => q hcn) h3)), if_neg (show ¬ (M 6 a ≠ -1 ∨ M 6 b ≠ -1) from fun z => z.elim (fun q => q h5) (fun q => q h6)), if_neg (show ¬ (M 3 a ≠ M 7 (5 * p + i) ∨ M 3 b ≠ M 7 (5 * p + i + 1)) from fun z => z.elim (fun q => q h7) (fun q => q h8)), if_neg (show ¬ 4 < na + nb by omega), mm_merge, if_pos h10]; exact ⟨rfl, rfl⟩)
                    · refine lv_aload_n hx hb d_MO_joins_182 rfl (lv_at hl 3 rfl) ?_
                      refine lv_iload hx hb d_MO_joins_183 (lv_at hl 1 rfl) ?_
                      refine lv_iload hx hb d_MO_joins_185 (lv_at hl 0 rfl) ?_
                      refine lk_gov (lk_runV (As := [.int (nI a), .int (nI b)]) (C := R_MO) X h (c_MO_balance l D τ ad M a b na nb ha hb2 hab h5a h5b hna hnb (by omega)) ⟨gc_MO_balance, gm_MO_195, gn_MO, gd_MO_balance, by decide, by decide⟩ gi_MO_balance gs_MO_balance ⟨0, 4, _, _, _, lk_w_get (by decide), rfl⟩ rfl hl.1 (Nat.le_of_ble_eq_true rfl) d_MO_joins_187 ⟨Nat.zero_le _, Nat.zero_le _⟩) h hA (fun σ187 H locs hk9 h => ?_)
                      rw [hk9] at h
                      refine lv_aload_n hx hb d_MO_joins_190 rfl (lv_at hl 3 rfl) ?_
                      refine mo_get X rfl h 8 (by decide) rfl gf_MO_31 rfl d_MO_joins_191 ?_
                      refine lv_iconst (v := nI 5) hx hb d_MO_joins_194 (by decide) ?_
                      refine lv_iload_n hx hb d_MO_joins_195 rfl (lv_at hl 5 rfl) ?_
                      refine lk_imulN hx hb d_MO_joins_196 ?_
                      refine lv_iload_n hx hb d_MO_joins_197 rfl (lv_at hl 2 rfl) ?_
                      refine lk_iaddN hx hb d_MO_joins_198 ?_
                      refine lv_aload_n hx hb d_MO_joins_199 rfl (lv_at hl 3 rfl) ?_
                      refine mo_get X rfl h 4 (by decide) rfl gf_MO_19 rfl d_MO_joins_200 ?_
                      refine lv_iload hx hb d_MO_joins_203 (lv_at hl 1 rfl) ?_
                      refine mo_ald X h 3 24 rfl (by decide) (j := a) (by omega) (by decide) d_MO_joins_205 ?_
                      refine lk_top (lk_shr M a b na nb 7 (5 * a + (na + nb + 1) / 2 - 1)) ((lk_st_f (by decide)).trans lk_st_s) ?_
                      refine mo_ast X h 7 120 rfl (by decide) (j := 5 * p + i) (v := lk_shr M a b na nb 7 (5 * a + (na + nb + 1) / 2 - 1)) (by omega) (by decide) d_MO_joins_206 (fun H locs h => ?_)
                      refine lv_goto (tgt := 328) hx hb d_MO_joins_207 (by decide) ?_
                      refine lv_aload_n hx hb d_MO_joins_328 rfl (lv_at hl 3 rfl) ?_
                      refine lv_iload_n hx hb d_MO_joins_329 rfl (lv_at hl 4 rfl) ?_
                      refine lv_iconst (v := 1) hx hb d_MO_joins_330 (by decide) ?_
                      refine lk_goi (lk_runV (As := [.int (nI t), .int 1]) (C := R_MO) X h (c_MO_finish l D τ ad _ t ht 1) ⟨gc_MO_finish, gm_MO_126, gn_MO, gd_MO_finish, by decide, by decide⟩ gi_MO_finish gs_MO_finish ⟨0, 4, _, _, _, lk_w_get (by decide), rfl⟩ rfl hl.1 (Nat.le_of_ble_eq_true rfl) d_MO_joins_331 ⟨Nat.zero_le _, Nat.zero_le _⟩) h hA (fun r331 σ331 H locs hk9 h => ?_)
                      rw [hk9.2] at h
                      rw [hk9.1]
                      exact lk_reti X h d_MO_joins_334 (by rw [mm_joins, if_neg (show ¬ (M 0 x ≠ 1 ∨ ¬ c < n ∨ n = 1) from fun z => z.elim (fun q => q h1) (fun q => q.elim (fun q => q hcn) h3)), if_neg (show ¬ (M 6 a ≠ -1 ∨ M 6 b ≠ -1) from fun z => z.elim (fun q => q h5) (fun q => q h6)), if_neg (show ¬ (M 3 a ≠ M 7 (5 * p + i) ∨ M 3 b ≠ M 7 (5 * p + i + 1)) from fun z => z.elim (fun q => q h7) (fun q => q h8)), if_pos h9]; exact ⟨rfl, rfl⟩)
                  · refine lv_aload_n hx hb d_MO_joins_156 rfl (lv_at hl 3 rfl) ?_
                    refine lv_iload_n hx hb d_MO_joins_157 rfl (lv_at hl 4 rfl) ?_
                    refine lv_iconst (v := 0) hx hb d_MO_joins_158 (by decide) ?_
                    refine lk_goi (lk_runV (As := [.int (nI t), .int 0]) (C := R_MO) X h (c_MO_finish l D τ ad _ t ht 0) ⟨gc_MO_finish, gm_MO_126, gn_MO, gd_MO_finish, by decide, by decide⟩ gi_MO_finish gs_MO_finish ⟨0, 4, _, _, _, lk_w_get (by decide), rfl⟩ rfl hl.1 (Nat.le_of_ble_eq_true rfl) d_MO_joins_159 ⟨Nat.zero_le _, Nat.zero_le _⟩) h hA (fun r159 σ159 H locs hk9 h => ?_)
                    rw [hk9.2] at h
                    rw [hk9.1]
                    exact lk_reti X h d_MO_joins_162 (by rw [mm_joins, if_neg (show ¬ (M 0 x ≠ 1 ∨ ¬ c < n ∨ n = 1) from fun z => z.elim (fun q => q h1) (fun q => q.elim (fun q => q hcn) h3)), if_neg (show ¬ (M 6 a ≠ -1 ∨ M 6 b ≠ -1) from fun z => z.elim (fun q => q h5) (fun q => q h6)), if_pos (Or.inr h8)]; exact ⟨rfl, rfl⟩)
              · refine lv_iconst (v := 1) hx hb d_MO_joins_112 (by decide) ?_
                exact lk_reti X h d_MO_joins_113 (by rw [mm_joins, if_neg (show ¬ (M 0 x ≠ 1 ∨ ¬ c < n ∨ n = 1) from fun z => z.elim (fun q => q h1) (fun q => q.elim (fun q => q hcn) h3)), if_pos (Or.inr h6)]; exact ⟨rfl, rfl⟩)
        · refine lv_aload_n hx hb d_MO_joins_42 rfl (lv_at hl 1 rfl) ?_
          refine lv_iload_n hx hb d_MO_joins_43 rfl (lv_at hl 2 rfl) ?_
          refine lv_iconst (v := 0) hx hb d_MO_joins_44 (by decide) ?_
          refine lk_goi (lk_runV (As := [.int (nI t), .int 0]) (C := R_MO) X h (c_MO_finish l D τ ad _ t ht 0) ⟨gc_MO_finish, gm_MO_126, gn_MO, gd_MO_finish, by decide, by decide⟩ gi_MO_finish gs_MO_finish ⟨0, 4, _, _, _, lk_w_get (by decide), rfl⟩ rfl hl.1 (Nat.le_of_ble_eq_true rfl) d_MO_joins_45 ⟨Nat.zero_le _, Nat.zero_le _⟩) h hA (fun r45 σ45 H locs hk9 h => ?_)
          rw [hk9.2] at h
          rw [hk9.1]
          exact lk_reti X h d_MO_joins_48 (by rw [mm_joins, if_pos (Or.inr (Or.inr h3))]; exact ⟨rfl, rfl⟩)
  · rw [show lk_nn c n = -1 from if_neg hcn]
    refine lv_istore_n hx hb d_MO_joins_11 rfl hl (by decide) rfl (fun ls hl => ?_)
    have hl : lv_has ls 7 [(3, .int (-1)), (0, .ref (ad 0)), (1, .int (nI t)), (2, .int (nI p))] := hl
    refine lv_aload_n hx hb d_MO_joins_12 rfl (lv_at hl 1 rfl) ?_
    refine mo_get X rfl h 1 (by decide) rfl gf_MO_7 rfl d_MO_joins_13 ?_
    refine lv_aload_n hx hb d_MO_joins_16 rfl (lv_at hl 1 rfl) ?_
    refine mo_get X rfl h 21 (by decide) rfl gf_MO_65 rfl d_MO_joins_17 ?_
    refine lv_iload_n hx hb d_MO_joins_20 rfl (lv_at hl 2 rfl) ?_
    refine mo_ald X h 18 4 rfl (by decide) (j := t) (by omega) (by decide) d_MO_joins_21 ?_
    refine lk_top (nI x) (habt) ?_
    refine mo_ald X h 0 24 rfl (by decide) (j := x) (by omega) (by decide) d_MO_joins_22 ?_
    refine lv_iconst (v := 1) hx hb d_MO_joins_23 (by decide) ?_
    refine lv_icmp_ne (tgt := 42) hx hb d_MO_joins_24 (by decide) (fun h1 => ?_) (fun h1 => ?_)
    · refine lv_aload_n hx hb d_MO_joins_42 rfl (lv_at hl 1 rfl) ?_
      refine lv_iload_n hx hb d_MO_joins_43 rfl (lv_at hl 2 rfl) ?_
      refine lv_iconst (v := 0) hx hb d_MO_joins_44 (by decide) ?_
      refine lk_goi (lk_runV (As := [.int (nI t), .int 0]) (C := R_MO) X h (c_MO_finish l D τ ad _ t ht 0) ⟨gc_MO_finish, gm_MO_126, gn_MO, gd_MO_finish, by decide, by decide⟩ gi_MO_finish gs_MO_finish ⟨0, 4, _, _, _, lk_w_get (by decide), rfl⟩ rfl hl.1 (Nat.le_of_ble_eq_true rfl) d_MO_joins_45 ⟨Nat.zero_le _, Nat.zero_le _⟩) h hA (fun r45 σ45 H locs hk9 h => ?_)
      rw [hk9.2] at h
      rw [hk9.1]
      exact lk_reti X h d_MO_joins_48 (by rw [mm_joins, if_pos (Or.inl h1)]; exact ⟨rfl, rfl⟩)
    · refine lv_iload_n hx hb d_MO_joins_27 rfl (lv_at hl 0 rfl) ?_
      refine lv_iconst (v := (-1)) hx hb d_MO_joins_28 (by decide) ?_
      refine lv_icmp_eq (tgt := 42) hx hb d_MO_joins_29 (by decide) (fun _ => ?_) (fun z => absurd z (by decide))
      refine lv_aload_n hx hb d_MO_joins_42 rfl (lv_at hl 1 rfl) ?_
      refine lv_iload_n hx hb d_MO_joins_43 rfl (lv_at hl 2 rfl) ?_
      refine lv_iconst (v := 0) hx hb d_MO_joins_44 (by decide) ?_
      refine lk_goi (lk_runV (As := [.int (nI t), .int 0]) (C := R_MO) X h (c_MO_finish l D τ ad _ t ht 0) ⟨gc_MO_finish, gm_MO_126, gn_MO, gd_MO_finish, by decide, by decide⟩ gi_MO_finish gs_MO_finish ⟨0, 4, _, _, _, lk_w_get (by decide), rfl⟩ rfl hl.1 (Nat.le_of_ble_eq_true rfl) d_MO_joins_45 ⟨Nat.zero_le _, Nat.zero_le _⟩) h hA (fun r45 σ45 H locs hk9 h => ?_)
      rw [hk9.2] at h
      rw [hk9.1]
      exact lk_reti X h d_MO_joins_48 (by rw [mm_joins, if_pos (Or.inr (Or.inl hcn))]; exact ⟨rfl, rfl⟩)
end
section
noncomputable def mm_hold0 (M : lk_M) (t p n v rt nq x a b na nb : Nat) : Int32 × lk_M :=
  @ite _ (lk_lost M t p) (Classical.propDecidable _) (0, lk_rst M t) (if M 3 p < M 15 t then (0, lk_st (lk_rgt M t p) 13 t 1) else if M 12 t = 1 then mm_puts M t p n v else if M 12 t = 4 then mm_posts M t p n v else if M 12 t = 2 then mm_removes M t p n rt nq else mm_joins M t p n x a b na nb rt nq (lk_ch M p n (nI x)) (lk_ji (lk_ch M p n (nI x)) n))
noncomputable def mm_holds (M : lk_M) (t p n v rt nq x a b na nb : Nat) : Int32 × lk_M :=
  if (mm_hold0 M t p n v rt nq x a b na nb).1 = 1 then mm_hold0 M t p n v rt nq x a b na nb else ((mm_hold0 M t p n v rt nq x a b na nb).1, lk_st (mm_hold0 M t p n v rt nq x a b na nb).2 6 p (-1))
/-- what a page must have that a task holds -/
def lk_hpre (M : lk_M) (t p n v rt nq x a b na nb : Nat) : Prop :=
  t < 4 ∧ p < 24 ∧ M 14 t = nI p ∧ rt < 24 ∧ M 24 0 = nI rt ∧ nq ≤ 12 ∧ M 24 1 = nI nq ∧ (¬ lk_lost M t p → M 5 p = nI n ∧ n ≤ 4 ∧ M 1 p = nI v ∧ v ≤ 23 ∧ M 0 p = 1) ∧
  (¬ lk_lost M t p → ¬ M 3 p < M 15 t → M 12 t = 4 → lk_at M p n (M 15 t) < n) ∧
  (¬ lk_lost M t p → ¬ M 3 p < M 15 t → M 12 t ≠ 1 → M 12 t ≠ 4 → M 12 t ≠ 2 → x < 24 ∧ M 18 t = nI x ∧ 1 ≤ n ∧ (lk_ch M p n (nI x) < n → 2 ≤ n → M 8 (5 * p + lk_ji (lk_ch M p n (nI x)) n) = nI a ∧ M 8 (5 * p + lk_ji (lk_ch M p n (nI x)) n + 1) = nI b ∧ a < 24 ∧ b < 24 ∧ a ≠ b ∧ a ≠ p ∧ b ≠ p ∧ M 5 a = nI na ∧ M 5 b = nI nb ∧ na ≤ 4 ∧ nb ≤ 4))
set_option maxRecDepth 20000 in
theorem c_MO_holds (l : Launch) (D : va_G) (τ : Nat → ClassId) (ad : Nat → Nat) (M : lk_M) (t p n v rt nq x a b na nb : Nat) (hh : lk_hpre M t p n v rt nq x a b na nb) : lk_Ci l D τ 25 ad (lk_me τ ad) y_MO_holds b_MO_holds 5 (.int) 4 94 [.ref (ad 0), .int (nI t)] M (fun r M1 => r = (mm_holds M t p n v rt nq x a b na nb).1 ∧ M1 = (mm_holds M t p n v rt nq x a b na nb).2) := by
  refine lk_openi (by decide +kernel) (Nat.le_of_ble_eq_true rfl) ?_
  intro pg en s m args below meth cd ls A X h hA hl
  obtain ⟨hx, hb, -⟩ := id X
  have hl : lv_has ls 5 [(0, .ref (ad 0)), (1, .int (nI t))] := hl
  obtain ⟨ht, hp, hpl, hrt, hr0, hnq, hq0, hok, hpo, hjo⟩ := hh
  refine lv_aload_n hx hb d_MO_holds_0 rfl (lv_at hl 0 rfl) ?_
  refine mo_get X rfl h 17 (by decide) rfl gf_MO_53 rfl d_MO_holds_1 ?_
  refine lv_iload_n hx hb d_MO_holds_4 rfl (lv_at hl 1 rfl) ?_
  refine mo_ald X h 14 4 rfl (by decide) (j := t) (by omega) (by decide) d_MO_holds_5 ?_
  refine lk_top (nI p) (hpl) ?_
  refine lv_istore_n hx hb d_MO_holds_6 rfl hl (by decide) rfl (fun ls hl => ?_)
  have hl : lv_has ls 5 [(2, .int (nI p)), (0, .ref (ad 0)), (1, .int (nI t))] := hl
  refine lv_iconst (v := 0) hx hb d_MO_holds_7 (by decide) ?_
  refine lv_istore_n hx hb d_MO_holds_8 rfl hl (by decide) rfl (fun ls hl => ?_)
  have hl : lv_has ls 5 [(3, .int 0), (2, .int (nI p)), (0, .ref (ad 0)), (1, .int (nI t))] := hl
  refine lv_aload_n hx hb d_MO_holds_9 rfl (lv_at hl 2 rfl) ?_
  refine lv_iload_n hx hb d_MO_holds_10 rfl (lv_at hl 3 rfl) ?_
  refine lk_goi (lk_runV (As := [.int (nI t)]) (C := R_MO) X h (c_MO_isLost l D τ ad M t p ht hp hpl) ⟨gc_MO_isLost, gm_MO_129, gn_MO, gd_MO_isLost, by decide, by decide⟩ gi_MO_isLost gs_MO_isLost ⟨0, 4, _, _, _, lk_w_get (by decide), rfl⟩ rfl hl.1 (Nat.le_of_ble_eq_true rfl) d_MO_holds_11 ⟨Nat.zero_le _, Nat.zero_le _⟩) h hA (fun r11 σ11 H locs hk9 h => ?_)
  obtain ⟨hk9, hm9⟩ := hk9
  rw [hm9] at h
  rcases hk9 with ⟨e9, hT14⟩ | ⟨e9, hT14⟩
  · rw [e9]
    refine lv_if_eq (tgt := 26) hx hb d_MO_holds_14 (by decide) (fun z => absurd z (by decide)) (fun _ => ?_)
    refine lv_aload_n hx hb d_MO_holds_17 rfl (lv_at hl 2 rfl) ?_
    refine lv_iload_n hx hb d_MO_holds_18 rfl (lv_at hl 3 rfl) ?_
    refine lk_goi (lk_runV (As := [.int (nI t)]) (C := R_MO) X h (c_MO_restart l D τ ad M t ht) ⟨gc_MO_restart, gm_MO_132, gn_MO, gd_MO_restart, by decide, by decide⟩ gi_MO_restart gs_MO_restart ⟨0, 4, _, _, _, lk_w_get (by decide), rfl⟩ rfl hl.1 (Nat.le_of_ble_eq_true rfl) d_MO_holds_19 ⟨Nat.zero_le _, Nat.zero_le _⟩) h hA (fun r19 σ19 H locs hk9 h => ?_)
    rw [hk9.2] at h
    rw [hk9.1]
    have e0 : mm_hold0 M t p n v rt nq x a b na nb = (0, lk_rst M t) := by rw [mm_hold0, if_pos hT14]
    refine lv_istore_n hx hb d_MO_holds_22 rfl hl (by decide) rfl (fun ls hl => ?_)
    have hl : lv_has ls 5 [(3, .int 0), (2, .int (nI p)), (0, .ref (ad 0)), (1, .int (nI t))] := hl
    refine lv_goto (tgt := 116) hx hb d_MO_holds_23 (by decide) ?_
    refine lv_iload_n hx hb d_MO_holds_116 rfl (lv_at hl 0 rfl) ?_
    refine lv_iconst (v := 1) hx hb d_MO_holds_117 (by decide) ?_
    refine lv_icmp_eq (tgt := 128) hx hb d_MO_holds_118 (by decide) (fun z => absurd z (by decide)) (fun _ => ?_)
    refine lv_aload_n hx hb d_MO_holds_121 rfl (lv_at hl 2 rfl) ?_
    refine mo_get X rfl h 7 (by decide) rfl gf_MO_28 rfl d_MO_holds_122 ?_
    refine lv_iload_n hx hb d_MO_holds_125 rfl (lv_at hl 1 rfl) ?_
    refine lv_iconst (v := (-1)) hx hb d_MO_holds_126 (by decide) ?_
    refine mo_ast X h 6 24 rfl (by decide) (j := p) (v := (-1)) (by omega) (by decide) d_MO_holds_127 (fun H locs h => ?_)
    refine lv_iload_n hx hb d_MO_holds_128 rfl (lv_at hl 0 rfl) ?_
    exact lk_reti X h d_MO_holds_129 (by rw [mm_holds, e0, if_neg (by show ¬ (0 : Int32) = 1; decide)]; exact ⟨rfl, rfl⟩)
  · rw [e9]
    refine lv_if_eq (tgt := 26) hx hb d_MO_holds_14 (by decide) (fun _ => ?_) (fun z => absurd z (by decide))
    obtain ⟨hc, hn, hl1, hv, hkd⟩ := hok hT14
    refine lv_aload_n hx hb d_MO_holds_26 rfl (lv_at hl 2 rfl) ?_
    refine mo_get X rfl h 4 (by decide) rfl gf_MO_19 rfl d_MO_holds_27 ?_
    refine lv_iload_n hx hb d_MO_holds_30 rfl (lv_at hl 1 rfl) ?_
    refine mo_ald X h 3 24 rfl (by decide) (j := p) (by omega) (by decide) d_MO_holds_31 ?_
    refine lv_aload_n hx hb d_MO_holds_32 rfl (lv_at hl 2 rfl) ?_
    refine mo_get X rfl h 18 (by decide) rfl gf_MO_56 rfl d_MO_holds_33 ?_
    refine lv_iload_n hx hb d_MO_holds_36 rfl (lv_at hl 3 rfl) ?_
    refine mo_ald X h 15 4 rfl (by decide) (j := t) (by omega) (by decide) d_MO_holds_37 ?_
    refine lv_icmp_ge (tgt := 56) hx hb d_MO_holds_38 (by decide) (fun h38 => ?_) (fun h38 => ?_)
    · refine lv_aload_n hx hb d_MO_holds_56 rfl (lv_at hl 2 rfl) ?_
      refine mo_get X rfl h 15 (by decide) rfl gf_MO_47 rfl d_MO_holds_57 ?_
      refine lv_iload_n hx hb d_MO_holds_60 rfl (lv_at hl 3 rfl) ?_
      refine mo_ald X h 12 4 rfl (by decide) (j := t) (by omega) (by decide) d_MO_holds_61 ?_
      refine lv_istore hx hb d_MO_holds_62 hl (by decide) rfl (fun ls hl => ?_)
      have hl : lv_has ls 5 [(4, .int (M 12 t)), (3, .int 0), (2, .int (nI p)), (0, .ref (ad 0)), (1, .int (nI t))] := hl
      refine lv_iload hx hb d_MO_holds_64 (lv_at hl 0 rfl) ?_
      refine lv_iconst (v := 1) hx hb d_MO_holds_66 (by decide) ?_
      refine lv_icmp_ne (tgt := 79) hx hb d_MO_holds_67 (by decide) (fun h67 => ?_) (fun h67 => ?_)
      · refine lv_iload hx hb d_MO_holds_79 (lv_at hl 0 rfl) ?_
        refine lv_iconst (v := 4) hx hb d_MO_holds_81 (by decide) ?_
        refine lv_icmp_ne (tgt := 94) hx hb d_MO_holds_82 (by decide) (fun h82 => ?_) (fun h82 => ?_)
        · refine lv_iload hx hb d_MO_holds_94 (lv_at hl 0 rfl) ?_
          refine lv_iconst (v := 2) hx hb d_MO_holds_96 (by decide) ?_
          refine lv_icmp_ne (tgt := 109) hx hb d_MO_holds_97 (by decide) (fun h97 => ?_) (fun h97 => ?_)
          · obtain ⟨hx2, habt, hn1, hpr⟩ := hjo hT14 (Int32.not_lt.mpr h38) h67 h82 h97
            refine lv_aload_n hx hb d_MO_holds_109 rfl (lv_at hl 3 rfl) ?_
            refine lv_iload_n hx hb d_MO_holds_110 rfl (lv_at hl 4 rfl) ?_
            refine lv_iload_n hx hb d_MO_holds_111 rfl (lv_at hl 2 rfl) ?_
            refine lk_goi (lk_runV (As := [.int (nI t), .int (nI p)]) (C := R_MO) X h (c_MO_joins l D τ ad M t p n x a b na nb rt nq _ _ ht hp hx2 habt hc hn1 hn hrt hr0 hnq hq0 rfl rfl hpr) ⟨gc_MO_joins, gm_MO_167, gn_MO, gd_MO_joins, by decide, by decide⟩ gi_MO_joins gs_MO_joins ⟨0, 4, _, _, _, lk_w_get (by decide), rfl⟩ rfl hl.1 (Nat.le_of_ble_eq_true rfl) d_MO_holds_112 ⟨Nat.zero_le _, Nat.zero_le _⟩) h hA (fun r112 σ112 H locs hk9 h => ?_)
            rw [hk9.2] at h
            rw [hk9.1]
            have e0 : mm_hold0 M t p n v rt nq x a b na nb = mm_joins M t p n x a b na nb rt nq (lk_ch M p n (nI x)) (lk_ji (lk_ch M p n (nI x)) n) := by rw [mm_hold0, if_neg hT14, if_neg (Int32.not_lt.mpr h38), if_neg h67, if_neg h82, if_neg h97]
            refine lv_istore_n hx hb d_MO_holds_115 rfl hl (by decide) rfl (fun ls hl => ?_)
            have hl : lv_has ls 5 [(3, .int ((mm_joins M t p n x a b na nb rt nq (lk_ch M p n (nI x)) (lk_ji (lk_ch M p n (nI x)) n)).1)), (4, .int (M 12 t)), (2, .int (nI p)), (0, .ref (ad 0)), (1, .int (nI t))] := hl
            refine lv_iload_n hx hb d_MO_holds_116 rfl (lv_at hl 0 rfl) ?_
            refine lv_iconst (v := 1) hx hb d_MO_holds_117 (by decide) ?_
            refine lv_icmp_eq (tgt := 128) hx hb d_MO_holds_118 (by decide) (fun h118 => ?_) (fun h118 => ?_)
            · refine lv_iload_n hx hb d_MO_holds_128 rfl (lv_at hl 0 rfl) ?_
              exact lk_reti X h d_MO_holds_129 (by rw [mm_holds, e0, if_pos h118]; exact ⟨rfl, rfl⟩)
            · refine lv_aload_n hx hb d_MO_holds_121 rfl (lv_at hl 3 rfl) ?_
              refine mo_get X rfl h 7 (by decide) rfl gf_MO_28 rfl d_MO_holds_122 ?_
              refine lv_iload_n hx hb d_MO_holds_125 rfl (lv_at hl 2 rfl) ?_
              refine lv_iconst (v := (-1)) hx hb d_MO_holds_126 (by decide) ?_
              refine mo_ast X h 6 24 rfl (by decide) (j := p) (v := (-1)) (by omega) (by decide) d_MO_holds_127 (fun H locs h => ?_)
              refine lv_iload_n hx hb d_MO_holds_128 rfl (lv_at hl 0 rfl) ?_
              exact lk_reti X h d_MO_holds_129 (by rw [mm_holds, e0, if_neg h118]; exact ⟨rfl, rfl⟩)
          · refine lv_aload_n hx hb d_MO_holds_100 rfl (lv_at hl 3 rfl) ?_
            refine lv_iload_n hx hb d_MO_holds_101 rfl (lv_at hl 4 rfl) ?_
            refine lv_iload_n hx hb d_MO_holds_102 rfl (lv_at hl 2 rfl) ?_
            refine lk_goi (lk_runV (As := [.int (nI t), .int (nI p)]) (C := R_MO) X h (c_MO_removes l D τ ad M t p n rt nq ht hp hc hn hrt hr0 hnq hq0) ⟨gc_MO_removes, gm_MO_164, gn_MO, gd_MO_removes, by decide, by decide⟩ gi_MO_removes gs_MO_removes ⟨0, 4, _, _, _, lk_w_get (by decide), rfl⟩ rfl hl.1 (Nat.le_of_ble_eq_true rfl) d_MO_holds_103 ⟨Nat.zero_le _, Nat.zero_le _⟩) h hA (fun r103 σ103 H locs hk9 h => ?_)
            rw [hk9.2] at h
            rw [hk9.1]
            have e0 : mm_hold0 M t p n v rt nq x a b na nb = mm_removes M t p n rt nq := by rw [mm_hold0, if_neg hT14, if_neg (Int32.not_lt.mpr h38), if_neg h67, if_neg h82, if_pos h97]
            refine lv_goto (tgt := 115) hx hb d_MO_holds_106 (by decide) ?_
            refine lv_istore_n hx hb d_MO_holds_115 rfl hl (by decide) rfl (fun ls hl => ?_)
            have hl : lv_has ls 5 [(3, .int ((mm_removes M t p n rt nq).1)), (4, .int (M 12 t)), (2, .int (nI p)), (0, .ref (ad 0)), (1, .int (nI t))] := hl
            refine lv_iload_n hx hb d_MO_holds_116 rfl (lv_at hl 0 rfl) ?_
            refine lv_iconst (v := 1) hx hb d_MO_holds_117 (by decide) ?_
            refine lv_icmp_eq (tgt := 128) hx hb d_MO_holds_118 (by decide) (fun h118 => ?_) (fun h118 => ?_)
            · refine lv_iload_n hx hb d_MO_holds_128 rfl (lv_at hl 0 rfl) ?_
              exact lk_reti X h d_MO_holds_129 (by rw [mm_holds, e0, if_pos h118]; exact ⟨rfl, rfl⟩)
            · refine lv_aload_n hx hb d_MO_holds_121 rfl (lv_at hl 3 rfl) ?_
              refine mo_get X rfl h 7 (by decide) rfl gf_MO_28 rfl d_MO_holds_122 ?_
              refine lv_iload_n hx hb d_MO_holds_125 rfl (lv_at hl 2 rfl) ?_
              refine lv_iconst (v := (-1)) hx hb d_MO_holds_126 (by decide) ?_
              refine mo_ast X h 6 24 rfl (by decide) (j := p) (v := (-1)) (by omega) (by decide) d_MO_holds_127 (fun H locs h => ?_)
              refine lv_iload_n hx hb d_MO_holds_128 rfl (lv_at hl 0 rfl) ?_
              exact lk_reti X h d_MO_holds_129 (by rw [mm_holds, e0, if_neg h118]; exact ⟨rfl, rfl⟩)
        · refine lv_aload_n hx hb d_MO_holds_85 rfl (lv_at hl 3 rfl) ?_
          refine lv_iload_n hx hb d_MO_holds_86 rfl (lv_at hl 4 rfl) ?_
          refine lv_iload_n hx hb d_MO_holds_87 rfl (lv_at hl 2 rfl) ?_
          refine lk_goi (lk_runV (As := [.int (nI t), .int (nI p)]) (C := R_MO) X h (c_MO_posts l D τ ad M t p n v ht hp hc hn hkd hv hl1 (hpo hT14 (Int32.not_lt.mpr h38) h82)) ⟨gc_MO_posts, gm_MO_161, gn_MO, gd_MO_posts, by decide, by decide⟩ gi_MO_posts gs_MO_posts ⟨0, 4, _, _, _, lk_w_get (by decide), rfl⟩ rfl hl.1 (Nat.le_of_ble_eq_true rfl) d_MO_holds_88 ⟨Nat.zero_le _, Nat.zero_le _⟩) h hA (fun r88 σ88 H locs hk9 h => ?_)
          rw [hk9.2] at h
          rw [hk9.1]
          have e0 : mm_hold0 M t p n v rt nq x a b na nb = mm_posts M t p n v := by rw [mm_hold0, if_neg hT14, if_neg (Int32.not_lt.mpr h38), if_neg h67, if_pos h82]
          refine lv_goto (tgt := 115) hx hb d_MO_holds_91 (by decide) ?_
          refine lv_istore_n hx hb d_MO_holds_115 rfl hl (by decide) rfl (fun ls hl => ?_)
          have hl : lv_has ls 5 [(3, .int ((mm_posts M t p n v).1)), (4, .int (M 12 t)), (2, .int (nI p)), (0, .ref (ad 0)), (1, .int (nI t))] := hl
          refine lv_iload_n hx hb d_MO_holds_116 rfl (lv_at hl 0 rfl) ?_
          refine lv_iconst (v := 1) hx hb d_MO_holds_117 (by decide) ?_
          refine lv_icmp_eq (tgt := 128) hx hb d_MO_holds_118 (by decide) (fun h118 => ?_) (fun h118 => ?_)
          · refine lv_iload_n hx hb d_MO_holds_128 rfl (lv_at hl 0 rfl) ?_
            exact lk_reti X h d_MO_holds_129 (by rw [mm_holds, e0, if_pos h118]; exact ⟨rfl, rfl⟩)
          · refine lv_aload_n hx hb d_MO_holds_121 rfl (lv_at hl 3 rfl) ?_
            refine mo_get X rfl h 7 (by decide) rfl gf_MO_28 rfl d_MO_holds_122 ?_
            refine lv_iload_n hx hb d_MO_holds_125 rfl (lv_at hl 2 rfl) ?_
            refine lv_iconst (v := (-1)) hx hb d_MO_holds_126 (by decide) ?_
            refine mo_ast X h 6 24 rfl (by decide) (j := p) (v := (-1)) (by omega) (by decide) d_MO_holds_127 (fun H locs h => ?_)
            refine lv_iload_n hx hb d_MO_holds_128 rfl (lv_at hl 0 rfl) ?_
            exact lk_reti X h d_MO_holds_129 (by rw [mm_holds, e0, if_neg h118]; exact ⟨rfl, rfl⟩)
      · refine lv_aload_n hx hb d_MO_holds_70 rfl (lv_at hl 3 rfl) ?_
        refine lv_iload_n hx hb d_MO_holds_71 rfl (lv_at hl 4 rfl) ?_
        refine lv_iload_n hx hb d_MO_holds_72 rfl (lv_at hl 2 rfl) ?_
        refine lk_goi (lk_runV (As := [.int (nI t), .int (nI p)]) (C := R_MO) X h (c_MO_puts l D τ ad M t p n v ht hp hc hn hkd hv hl1) ⟨gc_MO_puts, gm_MO_158, gn_MO, gd_MO_puts, by decide, by decide⟩ gi_MO_puts gs_MO_puts ⟨0, 4, _, _, _, lk_w_get (by decide), rfl⟩ rfl hl.1 (Nat.le_of_ble_eq_true rfl) d_MO_holds_73 ⟨Nat.zero_le _, Nat.zero_le _⟩) h hA (fun r73 σ73 H locs hk9 h => ?_)
        rw [hk9.2] at h
        rw [hk9.1]
        have e0 : mm_hold0 M t p n v rt nq x a b na nb = mm_puts M t p n v := by rw [mm_hold0, if_neg hT14, if_neg (Int32.not_lt.mpr h38), if_pos h67]
        refine lv_goto (tgt := 115) hx hb d_MO_holds_76 (by decide) ?_
        refine lv_istore_n hx hb d_MO_holds_115 rfl hl (by decide) rfl (fun ls hl => ?_)
        have hl : lv_has ls 5 [(3, .int ((mm_puts M t p n v).1)), (4, .int (M 12 t)), (2, .int (nI p)), (0, .ref (ad 0)), (1, .int (nI t))] := hl
        refine lv_iload_n hx hb d_MO_holds_116 rfl (lv_at hl 0 rfl) ?_
        refine lv_iconst (v := 1) hx hb d_MO_holds_117 (by decide) ?_
        refine lv_icmp_eq (tgt := 128) hx hb d_MO_holds_118 (by decide) (fun h118 => ?_) (fun h118 => ?_)
        · refine lv_iload_n hx hb d_MO_holds_128 rfl (lv_at hl 0 rfl) ?_
          exact lk_reti X h d_MO_holds_129 (by rw [mm_holds, e0, if_pos h118]; exact ⟨rfl, rfl⟩)
        · refine lv_aload_n hx hb d_MO_holds_121 rfl (lv_at hl 3 rfl) ?_
          refine mo_get X rfl h 7 (by decide) rfl gf_MO_28 rfl d_MO_holds_122 ?_
          refine lv_iload_n hx hb d_MO_holds_125 rfl (lv_at hl 2 rfl) ?_
          refine lv_iconst (v := (-1)) hx hb d_MO_holds_126 (by decide) ?_
          refine mo_ast X h 6 24 rfl (by decide) (j := p) (v := (-1)) (by omega) (by decide) d_MO_holds_127 (fun H locs h => ?_)
          refine lv_iload_n hx hb d_MO_holds_128 rfl (lv_at hl 0 rfl) ?_
          exact lk_reti X h d_MO_holds_129 (by rw [mm_holds, e0, if_neg h118]; exact ⟨rfl, rfl⟩)
    · refine lv_aload_n hx hb d_MO_holds_41 rfl (lv_at hl 2 rfl) ?_
      refine lv_iload_n hx hb d_MO_holds_42 rfl (lv_at hl 3 rfl) ?_
      refine lk_gov (lk_runV (As := [.int (nI t)]) (C := R_MO) X h (c_MO_goRight l D τ ad M t p ht hp hpl) ⟨gc_MO_goRight, gm_MO_136, gn_MO, gd_MO_goRight, by decide, by decide⟩ gi_MO_goRight gs_MO_goRight ⟨0, 4, _, _, _, lk_w_get (by decide), rfl⟩ rfl hl.1 (Nat.le_of_ble_eq_true rfl) d_MO_holds_43 ⟨Nat.zero_le _, Nat.zero_le _⟩) h hA (fun σ43 H locs hk9 h => ?_)
      rw [hk9] at h
      have e0 : mm_hold0 M t p n v rt nq x a b na nb = (0, lk_st (lk_rgt M t p) 13 t 1) := by rw [mm_hold0, if_neg hT14, if_pos (Int32.not_le.mp h38)]
      refine lv_aload_n hx hb d_MO_holds_46 rfl (lv_at hl 2 rfl) ?_
      refine mo_get X rfl h 16 (by decide) rfl gf_MO_50 rfl d_MO_holds_47 ?_
      refine lv_iload_n hx hb d_MO_holds_50 rfl (lv_at hl 3 rfl) ?_
      refine lv_iconst (v := 1) hx hb d_MO_holds_51 (by decide) ?_
      refine mo_ast X h 13 4 rfl (by decide) (j := t) (v := 1) (by omega) (by decide) d_MO_holds_52 (fun H locs h => ?_)
      refine lv_goto (tgt := 116) hx hb d_MO_holds_53 (by decide) ?_
      refine lv_iload_n hx hb d_MO_holds_116 rfl (lv_at hl 0 rfl) ?_
      refine lv_iconst (v := 1) hx hb d_MO_holds_117 (by decide) ?_
      refine lv_icmp_eq (tgt := 128) hx hb d_MO_holds_118 (by decide) (fun z => absurd z (by decide)) (fun _ => ?_)
      refine lv_aload_n hx hb d_MO_holds_121 rfl (lv_at hl 2 rfl) ?_
      refine mo_get X rfl h 7 (by decide) rfl gf_MO_28 rfl d_MO_holds_122 ?_
      refine lv_iload_n hx hb d_MO_holds_125 rfl (lv_at hl 1 rfl) ?_
      refine lv_iconst (v := (-1)) hx hb d_MO_holds_126 (by decide) ?_
      refine mo_ast X h 6 24 rfl (by decide) (j := p) (v := (-1)) (by omega) (by decide) d_MO_holds_127 (fun H locs h => ?_)
      refine lv_iload_n hx hb d_MO_holds_128 rfl (lv_at hl 0 rfl) ?_
      exact lk_reti X h d_MO_holds_129 (by rw [mm_holds, e0, if_neg (by show ¬ (0 : Int32) = 1; decide)]; exact ⟨rfl, rfl⟩)
noncomputable def mm_step0 (M : lk_M) (t p n v rt nq x a b na nb : Nat) : Int32 × lk_M :=
  if M 13 t = 0 then mm_searches M t p n v rt else if M 13 t = 1 then mm_locks M t p else mm_holds M t p n v rt nq x a b na nb
def mm_cnt (y : Int32 × lk_M) (t : Nat) : lk_M :=
  if y.1 = 1 then lk_st (lk_st y.2 22 (4 * t) (y.2 22 (4 * t) + 1)) 22 (4 * t + 1) (y.2 22 (4 * t + 1) + 1) else lk_st y.2 22 (4 * t) (y.2 22 (4 * t) + 1)
set_option maxRecDepth 20000 in
theorem c_MO_step_bad (l : Launch) (D : va_G) (τ : Nat → ClassId) (ad : Nat → Nat) (M : lk_M) (x : Int32) (hx0 : ¬ (0 ≤ x ∧ x ≤ 3)) : lk_Ci l D τ 25 ad (lk_me τ ad) y_MO_step b_MO_step 3 (.int) 5 118 [.ref (ad 0), .int x] M (fun r M1 => r = 0 ∧ M1 = lk_st M 24 2 1) := by
  refine lk_openi (by decide +kernel) (Nat.le_of_ble_eq_true rfl) ?_
  intro pg en s m args below meth cd ls A X h hA hl
  obtain ⟨hx, hb, -⟩ := id X
  have hl : lv_has ls 3 [(0, .ref (ad 0)), (1, .int x)] := hl
  refine lv_aload_n hx hb d_MO_step_0 rfl (lv_at hl 0 rfl) ?_
  refine lv_aload_n hx hb d_MO_step_1 rfl (lv_at hl 0 rfl) ?_
  refine lv_iload_n hx hb d_MO_step_2 rfl (lv_at hl 1 rfl) ?_
  refine lk_goi (lk_runV (As := [.int x]) (C := R_MO) X h (c_MO_isTask l D τ ad M x) ⟨gc_MO_isTask, gm_MO_115, gn_MO, gd_MO_isTask, by decide, by decide⟩ gi_MO_isTask gs_MO_isTask ⟨0, 4, _, _, _, lk_w_get (by decide), rfl⟩ rfl hl.1 (Nat.le_of_ble_eq_true rfl) d_MO_step_3 ⟨Nat.zero_le _, Nat.zero_le _⟩) h hA (fun r3 σ3 H locs hk9 h => ?_)
  rw [hk9.2] at h
  rw [hk9.1, if_neg hx0]
  refine lv_if_ne (tgt := 13) hx hb d_MO_step_6 (by decide) (fun z => absurd z (by decide)) (fun _ => ?_)
  refine lv_iconst (v := 1) hx hb d_MO_step_9 (by decide) ?_
  refine lv_goto (tgt := 14) hx hb d_MO_step_10 (by decide) ?_
  refine lv_iconst (v := 1) hx hb d_MO_step_14 (by decide) ?_
  refine lk_goi (lk_runV (As := [.int 1, .int 1]) (C := R_MO) X h (c_MO_fails l D τ ad _ 1 1 (by decide)) ⟨gc_MO_fails, gm_MO_119, gn_MO, gd_MO_fails, by decide, by decide⟩ gi_MO_fails gs_MO_fails ⟨0, 4, _, _, _, lk_w_get (by decide), rfl⟩ rfl hl.1 (Nat.le_of_ble_eq_true rfl) d_MO_step_15 ⟨Nat.zero_le _, Nat.zero_le _⟩) h hA (fun r15 σ15 H locs hk9 h => ?_)
  rw [hk9.2, if_neg (by decide)] at h
  rw [hk9.1]
  refine lv_if_ne (tgt := 43) hx hb d_MO_step_18 (by decide) (fun _ => ?_) (fun z => absurd z (by decide))
  refine lv_iconst (v := 0) hx hb d_MO_step_43 (by decide) ?_
  exact lk_reti X h d_MO_step_44 (⟨rfl, rfl⟩)
set_option maxRecDepth 20000 in
theorem c_MO_step_no (l : Launch) (D : va_G) (τ : Nat → ClassId) (ad : Nat → Nat) (M : lk_M) (t : Nat) (ht : t < 4) (hbu : M 11 t = 0) : lk_Ci l D τ 25 ad (lk_me τ ad) y_MO_step b_MO_step 3 (.int) 5 118 [.ref (ad 0), .int (nI t)] M (fun r M1 => r = 0 ∧ M1 = lk_st M 24 2 2) := by
  refine lk_openi (by decide +kernel) (Nat.le_of_ble_eq_true rfl) ?_
  intro pg en s m args below meth cd ls A X h hA hl
  obtain ⟨hx, hb, -⟩ := id X
  have hl : lv_has ls 3 [(0, .ref (ad 0)), (1, .int (nI t))] := hl
  refine lv_aload_n hx hb d_MO_step_0 rfl (lv_at hl 0 rfl) ?_
  refine lv_aload_n hx hb d_MO_step_1 rfl (lv_at hl 0 rfl) ?_
  refine lv_iload_n hx hb d_MO_step_2 rfl (lv_at hl 1 rfl) ?_
  refine lk_goi (lk_runV (As := [.int (nI t)]) (C := R_MO) X h (c_MO_isTask l D τ ad M (nI t)) ⟨gc_MO_isTask, gm_MO_115, gn_MO, gd_MO_isTask, by decide, by decide⟩ gi_MO_isTask gs_MO_isTask ⟨0, 4, _, _, _, lk_w_get (by decide), rfl⟩ rfl hl.1 (Nat.le_of_ble_eq_true rfl) d_MO_step_3 ⟨Nat.zero_le _, Nat.zero_le _⟩) h hA (fun r3 σ3 H locs hk9 h => ?_)
  rw [hk9.2] at h
  rw [hk9.1, if_pos (lk_in4' ht)]
  refine lv_if_ne (tgt := 13) hx hb d_MO_step_6 (by decide) (fun _ => ?_) (fun z => absurd z (by decide))
  refine lv_iconst (v := 0) hx hb d_MO_step_13 (by decide) ?_
  refine lv_iconst (v := 1) hx hb d_MO_step_14 (by decide) ?_
  refine lk_goi (lk_runV (As := [.int 0, .int 1]) (C := R_MO) X h (c_MO_fails l D τ ad _ 0 1 (by decide)) ⟨gc_MO_fails, gm_MO_119, gn_MO, gd_MO_fails, by decide, by decide⟩ gi_MO_fails gs_MO_fails ⟨0, 4, _, _, _, lk_w_get (by decide), rfl⟩ rfl hl.1 (Nat.le_of_ble_eq_true rfl) d_MO_step_15 ⟨Nat.zero_le _, Nat.zero_le _⟩) h hA (fun r15 σ15 H locs hk9 h => ?_)
  rw [hk9.2, if_pos rfl] at h
  rw [hk9.1]
  refine lv_if_ne (tgt := 43) hx hb d_MO_step_18 (by decide) (fun z => absurd z (by decide)) (fun _ => ?_)
  refine lv_aload_n hx hb d_MO_step_21 rfl (lv_at hl 0 rfl) ?_
  refine lv_aload_n hx hb d_MO_step_22 rfl (lv_at hl 0 rfl) ?_
  refine mo_get X rfl h 14 (by decide) rfl gf_MO_43 rfl d_MO_step_23 ?_
  refine lv_iload_n hx hb d_MO_step_26 rfl (lv_at hl 1 rfl) ?_
  refine mo_zald X h 11 (by decide) (j := t) (by omega) d_MO_step_27 ?_
  refine lk_top 0 ((lk_st_f (by decide)).trans hbu) ?_
  refine lv_if_ne (tgt := 35) hx hb d_MO_step_28 (by decide) (fun z => absurd z (by decide)) (fun _ => ?_)
  refine lv_iconst (v := 1) hx hb d_MO_step_31 (by decide) ?_
  refine lv_goto (tgt := 36) hx hb d_MO_step_32 (by decide) ?_
  refine lv_iconst (v := 2) hx hb d_MO_step_36 (by decide) ?_
  refine lk_goi (lk_runV (As := [.int 1, .int 2]) (C := R_MO) X h (c_MO_fails l D τ ad _ 1 2 (by decide)) ⟨gc_MO_fails, gm_MO_119, gn_MO, gd_MO_fails, by decide, by decide⟩ gi_MO_fails gs_MO_fails ⟨0, 4, _, _, _, lk_w_get (by decide), rfl⟩ rfl hl.1 (Nat.le_of_ble_eq_true rfl) d_MO_step_37 ⟨Nat.zero_le _, Nat.zero_le _⟩) h hA (fun r37 σ37 H locs hk9 h => ?_)
  rw [hk9.2, if_neg (by decide)] at h
  rw [hk9.1]
  rw [lk_st_st] at h
  refine lv_if_eq (tgt := 45) hx hb d_MO_step_40 (by decide) (fun z => absurd z (by decide)) (fun _ => ?_)
  refine lv_iconst (v := 0) hx hb d_MO_step_43 (by decide) ?_
  exact lk_reti X h d_MO_step_44 (⟨rfl, rfl⟩)
set_option maxRecDepth 20000 in
theorem c_MO_answer_bad (l : Launch) (D : va_G) (τ : Nat → ClassId) (ad : Nat → Nat) (M : lk_M) (x : Int32) (hx0 : ¬ (0 ≤ x ∧ x ≤ 3)) : lk_Ci l D τ 25 ad (lk_me τ ad) y_MO_answer b_MO_answer 2 (.int) 2 43 [.ref (ad 0), .int x] M (fun r M1 => r = 0 ∧ M1 = lk_st M 24 2 1) := by
  refine lk_openi (by decide +kernel) (Nat.le_of_ble_eq_true rfl) ?_
  intro pg en s m args below meth cd ls A X h hA hl
  obtain ⟨hx, hb, -⟩ := id X
  have hl : lv_has ls 2 [(0, .ref (ad 0)), (1, .int x)] := hl
  refine lv_aload_n hx hb d_MO_answer_0 rfl (lv_at hl 0 rfl) ?_
  refine lv_aload_n hx hb d_MO_answer_1 rfl (lv_at hl 0 rfl) ?_
  refine lv_iload_n hx hb d_MO_answer_2 rfl (lv_at hl 1 rfl) ?_
  refine lk_goi (lk_runV (As := [.int x]) (C := R_MO) X h (c_MO_isTask l D τ ad M x) ⟨gc_MO_isTask, gm_MO_115, gn_MO, gd_MO_isTask, by decide, by decide⟩ gi_MO_isTask gs_MO_isTask ⟨0, 4, _, _, _, lk_w_get (by decide), rfl⟩ rfl hl.1 (Nat.le_of_ble_eq_true rfl) d_MO_answer_3 ⟨Nat.zero_le _, Nat.zero_le _⟩) h hA (fun r3 σ3 H locs hk9 h => ?_)
  rw [hk9.2] at h
  rw [hk9.1, if_neg hx0]
  refine lv_if_ne (tgt := 13) hx hb d_MO_answer_6 (by decide) (fun z => absurd z (by decide)) (fun _ => ?_)
  refine lv_iconst (v := 1) hx hb d_MO_answer_9 (by decide) ?_
  refine lv_goto (tgt := 14) hx hb d_MO_answer_10 (by decide) ?_
  refine lv_iconst (v := 1) hx hb d_MO_answer_14 (by decide) ?_
  refine lk_goi (lk_runV (As := [.int 1, .int 1]) (C := R_MO) X h (c_MO_fails l D τ ad _ 1 1 (by decide)) ⟨gc_MO_fails, gm_MO_119, gn_MO, gd_MO_fails, by decide, by decide⟩ gi_MO_fails gs_MO_fails ⟨0, 4, _, _, _, lk_w_get (by decide), rfl⟩ rfl hl.1 (Nat.le_of_ble_eq_true rfl) d_MO_answer_15 ⟨Nat.zero_le _, Nat.zero_le _⟩) h hA (fun r15 σ15 H locs hk9 h => ?_)
  rw [hk9.2, if_neg (by decide)] at h
  rw [hk9.1]
  refine lv_if_ne (tgt := 43) hx hb d_MO_answer_18 (by decide) (fun _ => ?_) (fun z => absurd z (by decide))
  refine lv_iconst (v := 0) hx hb d_MO_answer_43 (by decide) ?_
  exact lk_reti X h d_MO_answer_44 (⟨rfl, rfl⟩)
set_option maxRecDepth 20000 in
theorem c_MO_answer_no (l : Launch) (D : va_G) (τ : Nat → ClassId) (ad : Nat → Nat) (M : lk_M) (t : Nat) (ht : t < 4) (hbu : M 20 t = 0) : lk_Ci l D τ 25 ad (lk_me τ ad) y_MO_answer b_MO_answer 2 (.int) 2 43 [.ref (ad 0), .int (nI t)] M (fun r M1 => r = 0 ∧ M1 = lk_st M 24 2 2) := by
  refine lk_openi (by decide +kernel) (Nat.le_of_ble_eq_true rfl) ?_
  intro pg en s m args below meth cd ls A X h hA hl
  obtain ⟨hx, hb, -⟩ := id X
  have hl : lv_has ls 2 [(0, .ref (ad 0)), (1, .int (nI t))] := hl
  refine lv_aload_n hx hb d_MO_answer_0 rfl (lv_at hl 0 rfl) ?_
  refine lv_aload_n hx hb d_MO_answer_1 rfl (lv_at hl 0 rfl) ?_
  refine lv_iload_n hx hb d_MO_answer_2 rfl (lv_at hl 1 rfl) ?_
  refine lk_goi (lk_runV (As := [.int (nI t)]) (C := R_MO) X h (c_MO_isTask l D τ ad M (nI t)) ⟨gc_MO_isTask, gm_MO_115, gn_MO, gd_MO_isTask, by decide, by decide⟩ gi_MO_isTask gs_MO_isTask ⟨0, 4, _, _, _, lk_w_get (by decide), rfl⟩ rfl hl.1 (Nat.le_of_ble_eq_true rfl) d_MO_answer_3 ⟨Nat.zero_le _, Nat.zero_le _⟩) h hA (fun r3 σ3 H locs hk9 h => ?_)
  rw [hk9.2] at h
  rw [hk9.1, if_pos (lk_in4' ht)]
  refine lv_if_ne (tgt := 13) hx hb d_MO_answer_6 (by decide) (fun _ => ?_) (fun z => absurd z (by decide))
  refine lv_iconst (v := 0) hx hb d_MO_answer_13 (by decide) ?_
  refine lv_iconst (v := 1) hx hb d_MO_answer_14 (by decide) ?_
  refine lk_goi (lk_runV (As := [.int 0, .int 1]) (C := R_MO) X h (c_MO_fails l D τ ad _ 0 1 (by decide)) ⟨gc_MO_fails, gm_MO_119, gn_MO, gd_MO_fails, by decide, by decide⟩ gi_MO_fails gs_MO_fails ⟨0, 4, _, _, _, lk_w_get (by decide), rfl⟩ rfl hl.1 (Nat.le_of_ble_eq_true rfl) d_MO_answer_15 ⟨Nat.zero_le _, Nat.zero_le _⟩) h hA (fun r15 σ15 H locs hk9 h => ?_)
  rw [hk9.2, if_pos rfl] at h
  rw [hk9.1]
  refine lv_if_ne (tgt := 43) hx hb d_MO_answer_18 (by decide) (fun z => absurd z (by decide)) (fun _ => ?_)
  refine lv_aload_n hx hb d_MO_answer_21 rfl (lv_at hl 0 rfl) ?_
  refine lv_aload_n hx hb d_MO_answer_22 rfl (lv_at hl 0 rfl) ?_
  refine mo_get X rfl h 23 (by decide) rfl gf_MO_71 rfl d_MO_answer_23 ?_
  refine lv_iload_n hx hb d_MO_answer_26 rfl (lv_at hl 1 rfl) ?_
  refine mo_zald X h 20 (by decide) (j := t) (by omega) d_MO_answer_27 ?_
  refine lk_top 0 ((lk_st_f (by decide)).trans hbu) ?_
  refine lv_if_ne (tgt := 35) hx hb d_MO_answer_28 (by decide) (fun z => absurd z (by decide)) (fun _ => ?_)
  refine lv_iconst (v := 1) hx hb d_MO_answer_31 (by decide) ?_
  refine lv_goto (tgt := 36) hx hb d_MO_answer_32 (by decide) ?_
  refine lv_iconst (v := 2) hx hb d_MO_answer_36 (by decide) ?_
  refine lk_goi (lk_runV (As := [.int 1, .int 2]) (C := R_MO) X h (c_MO_fails l D τ ad _ 1 2 (by decide)) ⟨gc_MO_fails, gm_MO_119, gn_MO, gd_MO_fails, by decide, by decide⟩ gi_MO_fails gs_MO_fails ⟨0, 4, _, _, _, lk_w_get (by decide), rfl⟩ rfl hl.1 (Nat.le_of_ble_eq_true rfl) d_MO_answer_37 ⟨Nat.zero_le _, Nat.zero_le _⟩) h hA (fun r37 σ37 H locs hk9 h => ?_)
  rw [hk9.2, if_neg (by decide)] at h
  rw [hk9.1]
  rw [lk_st_st] at h
  refine lv_if_eq (tgt := 45) hx hb d_MO_answer_40 (by decide) (fun z => absurd z (by decide)) (fun _ => ?_)
  refine lv_iconst (v := 0) hx hb d_MO_answer_43 (by decide) ?_
  exact lk_reti X h d_MO_answer_44 (⟨rfl, rfl⟩)
set_option maxRecDepth 20000 in
theorem c_MO_answer (l : Launch) (D : va_G) (τ : Nat → ClassId) (ad : Nat → Nat) (M : lk_M) (t : Nat) (ht : t < 4) (hbu : M 20 t = 1) : lk_Ci l D τ 25 ad (lk_me τ ad) y_MO_answer b_MO_answer 2 (.int) 2 43 [.ref (ad 0), .int (nI t)] M (fun r M1 => r = M 21 t ∧ M1 = lk_st M 24 2 0) := by
  refine lk_openi (by decide +kernel) (Nat.le_of_ble_eq_true rfl) ?_
  intro pg en s m args below meth cd ls A X h hA hl
  obtain ⟨hx, hb, -⟩ := id X
  have hl : lv_has ls 2 [(0, .ref (ad 0)), (1, .int (nI t))] := hl
  refine lv_aload_n hx hb d_MO_answer_0 rfl (lv_at hl 0 rfl) ?_
  refine lv_aload_n hx hb d_MO_answer_1 rfl (lv_at hl 0 rfl) ?_
  refine lv_iload_n hx hb d_MO_answer_2 rfl (lv_at hl 1 rfl) ?_
  refine lk_goi (lk_runV (As := [.int (nI t)]) (C := R_MO) X h (c_MO_isTask l D τ ad M (nI t)) ⟨gc_MO_isTask, gm_MO_115, gn_MO, gd_MO_isTask, by decide, by decide⟩ gi_MO_isTask gs_MO_isTask ⟨0, 4, _, _, _, lk_w_get (by decide), rfl⟩ rfl hl.1 (Nat.le_of_ble_eq_true rfl) d_MO_answer_3 ⟨Nat.zero_le _, Nat.zero_le _⟩) h hA (fun r3 σ3 H locs hk9 h => ?_)
  rw [hk9.2] at h
  rw [hk9.1, if_pos (lk_in4' ht)]
  refine lv_if_ne (tgt := 13) hx hb d_MO_answer_6 (by decide) (fun _ => ?_) (fun z => absurd z (by decide))
  refine lv_iconst (v := 0) hx hb d_MO_answer_13 (by decide) ?_
  refine lv_iconst (v := 1) hx hb d_MO_answer_14 (by decide) ?_
  refine lk_goi (lk_runV (As := [.int 0, .int 1]) (C := R_MO) X h (c_MO_fails l D τ ad _ 0 1 (by decide)) ⟨gc_MO_fails, gm_MO_119, gn_MO, gd_MO_fails, by decide, by decide⟩ gi_MO_fails gs_MO_fails ⟨0, 4, _, _, _, lk_w_get (by decide), rfl⟩ rfl hl.1 (Nat.le_of_ble_eq_true rfl) d_MO_answer_15 ⟨Nat.zero_le _, Nat.zero_le _⟩) h hA (fun r15 σ15 H locs hk9 h => ?_)
  rw [hk9.2, if_pos rfl] at h
  rw [hk9.1]
  refine lv_if_ne (tgt := 43) hx hb d_MO_answer_18 (by decide) (fun z => absurd z (by decide)) (fun _ => ?_)
  refine lv_aload_n hx hb d_MO_answer_21 rfl (lv_at hl 0 rfl) ?_
  refine lv_aload_n hx hb d_MO_answer_22 rfl (lv_at hl 0 rfl) ?_
  refine mo_get X rfl h 23 (by decide) rfl gf_MO_71 rfl d_MO_answer_23 ?_
  refine lv_iload_n hx hb d_MO_answer_26 rfl (lv_at hl 1 rfl) ?_
  refine mo_zald X h 20 (by decide) (j := t) (by omega) d_MO_answer_27 ?_
  refine lk_top 1 ((lk_st_f (by decide)).trans hbu) ?_
  refine lv_if_ne (tgt := 35) hx hb d_MO_answer_28 (by decide) (fun _ => ?_) (fun z => absurd z (by decide))
  refine lv_iconst (v := 0) hx hb d_MO_answer_35 (by decide) ?_
  refine lv_iconst (v := 2) hx hb d_MO_answer_36 (by decide) ?_
  refine lk_goi (lk_runV (As := [.int 0, .int 2]) (C := R_MO) X h (c_MO_fails l D τ ad _ 0 2 (by decide)) ⟨gc_MO_fails, gm_MO_119, gn_MO, gd_MO_fails, by decide, by decide⟩ gi_MO_fails gs_MO_fails ⟨0, 4, _, _, _, lk_w_get (by decide), rfl⟩ rfl hl.1 (Nat.le_of_ble_eq_true rfl) d_MO_answer_37 ⟨Nat.zero_le _, Nat.zero_le _⟩) h hA (fun r37 σ37 H locs hk9 h => ?_)
  rw [hk9.2, if_pos rfl] at h
  rw [hk9.1]
  rw [lk_st_st] at h
  refine lv_if_eq (tgt := 45) hx hb d_MO_answer_40 (by decide) (fun _ => ?_) (fun z => absurd z (by decide))
  refine lv_aload_n hx hb d_MO_answer_45 rfl (lv_at hl 0 rfl) ?_
  refine mo_get X rfl h 24 (by decide) rfl gf_MO_74 rfl d_MO_answer_46 ?_
  refine lv_iload_n hx hb d_MO_answer_49 rfl (lv_at hl 1 rfl) ?_
  refine mo_ald X h 21 4 rfl (by decide) (j := t) (by omega) (by decide) d_MO_answer_50 ?_
  refine lk_top (M 21 t) (lk_st_f (by decide)) ?_
  exact lk_reti X h d_MO_answer_51 (⟨rfl, rfl⟩)
set_option maxRecDepth 20000 in
theorem c_MO_step (l : Launch) (D : va_G) (τ : Nat → ClassId) (ad : Nat → Nat) (M : lk_M) (t p n v rt nq x a b na nb : Nat) (hbu : M 11 t = 1) (hh : lk_hpre (lk_st M 24 2 0) t p n v rt nq x a b na nb) : lk_Ci l D τ 25 ad (lk_me τ ad) y_MO_step b_MO_step 3 (.int) 5 118 [.ref (ad 0), .int (nI t)] M (fun r M1 => r = (mm_step0 (lk_st M 24 2 0) t p n v rt nq x a b na nb).1 ∧ M1 = mm_cnt (mm_step0 (lk_st M 24 2 0) t p n v rt nq x a b na nb) t) := by
  refine lk_openi (by decide +kernel) (Nat.le_of_ble_eq_true rfl) ?_
  intro pg en s m args below meth cd ls A X h hA hl
  obtain ⟨hx, hb, -⟩ := id X
  have hl : lv_has ls 3 [(0, .ref (ad 0)), (1, .int (nI t))] := hl
  have hh2 := hh
  obtain ⟨ht, hp, hpl, hrt, hr0, hnq, hq0, hok, hpo, hjo⟩ := hh2
  refine lv_aload_n hx hb d_MO_step_0 rfl (lv_at hl 0 rfl) ?_
  refine lv_aload_n hx hb d_MO_step_1 rfl (lv_at hl 0 rfl) ?_
  refine lv_iload_n hx hb d_MO_step_2 rfl (lv_at hl 1 rfl) ?_
  refine lk_goi (lk_runV (As := [.int (nI t)]) (C := R_MO) X h (c_MO_isTask l D τ ad M (nI t)) ⟨gc_MO_isTask, gm_MO_115, gn_MO, gd_MO_isTask, by decide, by decide⟩ gi_MO_isTask gs_MO_isTask ⟨0, 4, _, _, _, lk_w_get (by decide), rfl⟩ rfl hl.1 (Nat.le_of_ble_eq_true rfl) d_MO_step_3 ⟨Nat.zero_le _, Nat.zero_le _⟩) h hA (fun r3 σ3 H locs hk9 h => ?_)
  rw [hk9.2] at h
  rw [hk9.1, if_pos (lk_in4' ht)]
  refine lv_if_ne (tgt := 13) hx hb d_MO_step_6 (by decide) (fun _ => ?_) (fun z => absurd z (by decide))
  refine lv_iconst (v := 0) hx hb d_MO_step_13 (by decide) ?_
  refine lv_iconst (v := 1) hx hb d_MO_step_14 (by decide) ?_
  refine lk_goi (lk_runV (As := [.int 0, .int 1]) (C := R_MO) X h (c_MO_fails l D τ ad _ 0 1 (by decide)) ⟨gc_MO_fails, gm_MO_119, gn_MO, gd_MO_fails, by decide, by decide⟩ gi_MO_fails gs_MO_fails ⟨0, 4, _, _, _, lk_w_get (by decide), rfl⟩ rfl hl.1 (Nat.le_of_ble_eq_true rfl) d_MO_step_15 ⟨Nat.zero_le _, Nat.zero_le _⟩) h hA (fun r15 σ15 H locs hk9 h => ?_)
  rw [hk9.2, if_pos rfl] at h
  rw [hk9.1]
  refine lv_if_ne (tgt := 43) hx hb d_MO_step_18 (by decide) (fun z => absurd z (by decide)) (fun _ => ?_)
  refine lv_aload_n hx hb d_MO_step_21 rfl (lv_at hl 0 rfl) ?_
  refine lv_aload_n hx hb d_MO_step_22 rfl (lv_at hl 0 rfl) ?_
  refine mo_get X rfl h 14 (by decide) rfl gf_MO_43 rfl d_MO_step_23 ?_
  refine lv_iload_n hx hb d_MO_step_26 rfl (lv_at hl 1 rfl) ?_
  refine mo_zald X h 11 (by decide) (j := t) (by omega) d_MO_step_27 ?_
  refine lk_top 1 ((lk_st_f (by decide)).trans hbu) ?_
  refine lv_if_ne (tgt := 35) hx hb d_MO_step_28 (by decide) (fun _ => ?_) (fun z => absurd z (by decide))
  refine lv_iconst (v := 0) hx hb d_MO_step_35 (by decide) ?_
  refine lv_iconst (v := 2) hx hb d_MO_step_36 (by decide) ?_
  refine lk_goi (lk_runV (As := [.int 0, .int 2]) (C := R_MO) X h (c_MO_fails l D τ ad _ 0 2 (by decide)) ⟨gc_MO_fails, gm_MO_119, gn_MO, gd_MO_fails, by decide, by decide⟩ gi_MO_fails gs_MO_fails ⟨0, 4, _, _, _, lk_w_get (by decide), rfl⟩ rfl hl.1 (Nat.le_of_ble_eq_true rfl) d_MO_step_37 ⟨Nat.zero_le _, Nat.zero_le _⟩) h hA (fun r37 σ37 H locs hk9 h => ?_)
  rw [hk9.2, if_pos rfl] at h
  rw [hk9.1]
  rw [lk_st_st] at h
  generalize hM0 : lk_st M 24 2 0 = M0 at *
  refine lv_if_eq (tgt := 45) hx hb d_MO_step_40 (by decide) (fun _ => ?_) (fun z => absurd z (by decide))
  refine lv_aload_n hx hb d_MO_step_45 rfl (lv_at hl 0 rfl) ?_
  refine mo_get X rfl h 16 (by decide) rfl gf_MO_50 rfl d_MO_step_46 ?_
  refine lv_iload_n hx hb d_MO_step_49 rfl (lv_at hl 1 rfl) ?_
  refine mo_ald X h 13 4 rfl (by decide) (j := t) (by omega) (by decide) d_MO_step_50 ?_
  refine lv_if_ne (tgt := 62) hx hb d_MO_step_51 (by decide) (fun h51 => ?_) (fun h51 => ?_)
  · refine lv_aload_n hx hb d_MO_step_62 rfl (lv_at hl 0 rfl) ?_
    refine mo_get X rfl h 16 (by decide) rfl gf_MO_50 rfl d_MO_step_63 ?_
    refine lv_iload_n hx hb d_MO_step_66 rfl (lv_at hl 1 rfl) ?_
    refine mo_ald X h 13 4 rfl (by decide) (j := t) (by omega) (by decide) d_MO_step_67 ?_
    refine lv_iconst (v := 1) hx hb d_MO_step_68 (by decide) ?_
    refine lv_icmp_ne (tgt := 80) hx hb d_MO_step_69 (by decide) (fun h69 => ?_) (fun h69 => ?_)
    · refine lv_aload_n hx hb d_MO_step_80 rfl (lv_at hl 0 rfl) ?_
      refine lv_iload_n hx hb d_MO_step_81 rfl (lv_at hl 1 rfl) ?_
      refine lk_goi (lk_runV (As := [.int (nI t)]) (C := R_MO) X h (c_MO_holds l D τ ad M0 t p n v rt nq x a b na nb hh) ⟨gc_MO_holds, gm_MO_176, gn_MO, gd_MO_holds, by decide, by decide⟩ gi_MO_holds gs_MO_holds ⟨0, 4, _, _, _, lk_w_get (by decide), rfl⟩ rfl hl.1 (Nat.le_of_ble_eq_true rfl) d_MO_step_82 ⟨Nat.zero_le _, Nat.zero_le _⟩) h hA (fun r82 σ82 H locs hk9 h => ?_)
      rw [hk9.2] at h
      rw [hk9.1]
      have e0 : mm_step0 M0 t p n v rt nq x a b na nb = mm_holds M0 t p n v rt nq x a b na nb := by rw [mm_step0, if_neg h51, if_neg h69]
      refine lv_istore_n hx hb d_MO_step_85 rfl hl (by decide) rfl (fun ls hl => ?_)
      have hl : lv_has ls 3 [(2, .int ((mm_holds M0 t p n v rt nq x a b na nb).1)), (0, .ref (ad 0)), (1, .int (nI t))] := hl
      refine lv_aload_n hx hb d_MO_step_86 rfl (lv_at hl 1 rfl) ?_
      refine mo_get X rfl h 25 (by decide) rfl gf_MO_77 rfl d_MO_step_87 ?_
      refine lv_iconst (v := nI 4) hx hb d_MO_step_90 (by decide) ?_
      refine lv_iload_n hx hb d_MO_step_91 rfl (lv_at hl 2 rfl) ?_
      refine lk_imulN hx hb d_MO_step_92 ?_
      refine lv_dup2_11 hx hb d_MO_step_93 rfl rfl ?_
      refine mo_ald X h 22 16 rfl (by decide) (j := 4 * t) (by omega) (by decide) d_MO_step_94 ?_
      refine lv_iconst (v := 1) hx hb d_MO_step_95 (by decide) ?_
      refine lv_iadd hx hb d_MO_step_96 ?_
      refine mo_ast X h 22 16 rfl (by decide) (j := 4 * t) (v := (((mm_holds M0 t p n v rt nq x a b na nb).2) 22 (4 * t)) + 1) (by omega) (by decide) d_MO_step_97 (fun H locs h => ?_)
      refine lv_iload_n hx hb d_MO_step_98 rfl (lv_at hl 0 rfl) ?_
      refine lv_iconst (v := 1) hx hb d_MO_step_99 (by decide) ?_
      refine lv_icmp_ne (tgt := 117) hx hb d_MO_step_100 (by decide) (fun h100 => ?_) (fun h100 => ?_)
      · refine lv_iload_n hx hb d_MO_step_117 rfl (lv_at hl 0 rfl) ?_
        exact lk_reti X h d_MO_step_118 (by rw [e0, mm_cnt, if_neg h100]; exact ⟨rfl, rfl⟩)
      · refine lv_aload_n hx hb d_MO_step_103 rfl (lv_at hl 1 rfl) ?_
        refine mo_get X rfl h 25 (by decide) rfl gf_MO_77 rfl d_MO_step_104 ?_
        refine lv_iconst (v := nI 4) hx hb d_MO_step_107 (by decide) ?_
        refine lv_iload_n hx hb d_MO_step_108 rfl (lv_at hl 2 rfl) ?_
        refine lk_imulN hx hb d_MO_step_109 ?_
        refine lv_iconst (v := nI 1) hx hb d_MO_step_110 (by decide) ?_
        refine lk_iaddN hx hb d_MO_step_111 ?_
        refine lv_dup2_11 hx hb d_MO_step_112 rfl rfl ?_
        refine mo_ald X h 22 16 rfl (by decide) (j := 4 * t + 1) (by omega) (by decide) d_MO_step_113 ?_
        refine lk_top (((mm_holds M0 t p n v rt nq x a b na nb).2) 22 (4 * t + 1)) (lk_st_p (by omega)) ?_
        refine lv_iconst (v := 1) hx hb d_MO_step_114 (by decide) ?_
        refine lv_iadd hx hb d_MO_step_115 ?_
        refine mo_ast X h 22 16 rfl (by decide) (j := 4 * t + 1) (v := (((mm_holds M0 t p n v rt nq x a b na nb).2) 22 (4 * t + 1)) + 1) (by omega) (by decide) d_MO_step_116 (fun H locs h => ?_)
        refine lv_iload_n hx hb d_MO_step_117 rfl (lv_at hl 0 rfl) ?_
        exact lk_reti X h d_MO_step_118 (by rw [e0, mm_cnt, if_pos h100]; exact ⟨rfl, rfl⟩)
    · refine lv_aload_n hx hb d_MO_step_72 rfl (lv_at hl 0 rfl) ?_
      refine lv_iload_n hx hb d_MO_step_73 rfl (lv_at hl 1 rfl) ?_
      refine lk_goi (lk_runV (As := [.int (nI t)]) (C := R_MO) X h (c_MO_locks l D τ ad M0 t p ht hp hpl) ⟨gc_MO_locks, gm_MO_173, gn_MO, gd_MO_locks, by decide, by decide⟩ gi_MO_locks gs_MO_locks ⟨0, 4, _, _, _, lk_w_get (by decide), rfl⟩ rfl hl.1 (Nat.le_of_ble_eq_true rfl) d_MO_step_74 ⟨Nat.zero_le _, Nat.zero_le _⟩) h hA (fun r74 σ74 H locs hk9 h => ?_)
      rw [hk9.2] at h
      rw [hk9.1]
      have e0 : mm_step0 M0 t p n v rt nq x a b na nb = mm_locks M0 t p := by rw [mm_step0, if_neg h51, if_pos h69]
      refine lv_goto (tgt := 85) hx hb d_MO_step_77 (by decide) ?_
      refine lv_istore_n hx hb d_MO_step_85 rfl hl (by decide) rfl (fun ls hl => ?_)
      have hl : lv_has ls 3 [(2, .int ((mm_locks M0 t p).1)), (0, .ref (ad 0)), (1, .int (nI t))] := hl
      refine lv_aload_n hx hb d_MO_step_86 rfl (lv_at hl 1 rfl) ?_
      refine mo_get X rfl h 25 (by decide) rfl gf_MO_77 rfl d_MO_step_87 ?_
      refine lv_iconst (v := nI 4) hx hb d_MO_step_90 (by decide) ?_
      refine lv_iload_n hx hb d_MO_step_91 rfl (lv_at hl 2 rfl) ?_
      refine lk_imulN hx hb d_MO_step_92 ?_
      refine lv_dup2_11 hx hb d_MO_step_93 rfl rfl ?_
      refine mo_ald X h 22 16 rfl (by decide) (j := 4 * t) (by omega) (by decide) d_MO_step_94 ?_
      refine lv_iconst (v := 1) hx hb d_MO_step_95 (by decide) ?_
      refine lv_iadd hx hb d_MO_step_96 ?_
      refine mo_ast X h 22 16 rfl (by decide) (j := 4 * t) (v := (((mm_locks M0 t p).2) 22 (4 * t)) + 1) (by omega) (by decide) d_MO_step_97 (fun H locs h => ?_)
      refine lv_iload_n hx hb d_MO_step_98 rfl (lv_at hl 0 rfl) ?_
      refine lv_iconst (v := 1) hx hb d_MO_step_99 (by decide) ?_
      refine lv_icmp_ne (tgt := 117) hx hb d_MO_step_100 (by decide) (fun h100 => ?_) (fun h100 => ?_)
      · refine lv_iload_n hx hb d_MO_step_117 rfl (lv_at hl 0 rfl) ?_
        exact lk_reti X h d_MO_step_118 (by rw [e0, mm_cnt, if_neg h100]; exact ⟨rfl, rfl⟩)
      · refine lv_aload_n hx hb d_MO_step_103 rfl (lv_at hl 1 rfl) ?_
        refine mo_get X rfl h 25 (by decide) rfl gf_MO_77 rfl d_MO_step_104 ?_
        refine lv_iconst (v := nI 4) hx hb d_MO_step_107 (by decide) ?_
        refine lv_iload_n hx hb d_MO_step_108 rfl (lv_at hl 2 rfl) ?_
        refine lk_imulN hx hb d_MO_step_109 ?_
        refine lv_iconst (v := nI 1) hx hb d_MO_step_110 (by decide) ?_
        refine lk_iaddN hx hb d_MO_step_111 ?_
        refine lv_dup2_11 hx hb d_MO_step_112 rfl rfl ?_
        refine mo_ald X h 22 16 rfl (by decide) (j := 4 * t + 1) (by omega) (by decide) d_MO_step_113 ?_
        refine lk_top (((mm_locks M0 t p).2) 22 (4 * t + 1)) (lk_st_p (by omega)) ?_
        refine lv_iconst (v := 1) hx hb d_MO_step_114 (by decide) ?_
        refine lv_iadd hx hb d_MO_step_115 ?_
        refine mo_ast X h 22 16 rfl (by decide) (j := 4 * t + 1) (v := (((mm_locks M0 t p).2) 22 (4 * t + 1)) + 1) (by omega) (by decide) d_MO_step_116 (fun H locs h => ?_)
        refine lv_iload_n hx hb d_MO_step_117 rfl (lv_at hl 0 rfl) ?_
        exact lk_reti X h d_MO_step_118 (by rw [e0, mm_cnt, if_pos h100]; exact ⟨rfl, rfl⟩)
  · refine lv_aload_n hx hb d_MO_step_54 rfl (lv_at hl 0 rfl) ?_
    refine lv_iload_n hx hb d_MO_step_55 rfl (lv_at hl 1 rfl) ?_
    refine lk_goi (lk_runV (As := [.int (nI t)]) (C := R_MO) X h (c_MO_searches l D τ ad M0 t p n v rt ht hp hpl hrt hr0 (fun z => let ⟨q1, q2, q3, q4, _⟩ := hok z; ⟨q1, q2, q3, q4⟩)) ⟨gc_MO_searches, gm_MO_170, gn_MO, gd_MO_searches, by decide, by decide⟩ gi_MO_searches gs_MO_searches ⟨0, 4, _, _, _, lk_w_get (by decide), rfl⟩ rfl hl.1 (Nat.le_of_ble_eq_true rfl) d_MO_step_56 ⟨Nat.zero_le _, Nat.zero_le _⟩) h hA (fun r56 σ56 H locs hk9 h => ?_)
    rw [hk9.2] at h
    rw [hk9.1]
    have e0 : mm_step0 M0 t p n v rt nq x a b na nb = mm_searches M0 t p n v rt := by rw [mm_step0, if_pos h51]
    refine lv_goto (tgt := 85) hx hb d_MO_step_59 (by decide) ?_
    refine lv_istore_n hx hb d_MO_step_85 rfl hl (by decide) rfl (fun ls hl => ?_)
    have hl : lv_has ls 3 [(2, .int ((mm_searches M0 t p n v rt).1)), (0, .ref (ad 0)), (1, .int (nI t))] := hl
    refine lv_aload_n hx hb d_MO_step_86 rfl (lv_at hl 1 rfl) ?_
    refine mo_get X rfl h 25 (by decide) rfl gf_MO_77 rfl d_MO_step_87 ?_
    refine lv_iconst (v := nI 4) hx hb d_MO_step_90 (by decide) ?_
    refine lv_iload_n hx hb d_MO_step_91 rfl (lv_at hl 2 rfl) ?_
    refine lk_imulN hx hb d_MO_step_92 ?_
    refine lv_dup2_11 hx hb d_MO_step_93 rfl rfl ?_
    refine mo_ald X h 22 16 rfl (by decide) (j := 4 * t) (by omega) (by decide) d_MO_step_94 ?_
    refine lv_iconst (v := 1) hx hb d_MO_step_95 (by decide) ?_
    refine lv_iadd hx hb d_MO_step_96 ?_
    refine mo_ast X h 22 16 rfl (by decide) (j := 4 * t) (v := (((mm_searches M0 t p n v rt).2) 22 (4 * t)) + 1) (by omega) (by decide) d_MO_step_97 (fun H locs h => ?_)
    refine lv_iload_n hx hb d_MO_step_98 rfl (lv_at hl 0 rfl) ?_
    refine lv_iconst (v := 1) hx hb d_MO_step_99 (by decide) ?_
    refine lv_icmp_ne (tgt := 117) hx hb d_MO_step_100 (by decide) (fun h100 => ?_) (fun h100 => ?_)
    · refine lv_iload_n hx hb d_MO_step_117 rfl (lv_at hl 0 rfl) ?_
      exact lk_reti X h d_MO_step_118 (by rw [e0, mm_cnt, if_neg h100]; exact ⟨rfl, rfl⟩)
    · refine lv_aload_n hx hb d_MO_step_103 rfl (lv_at hl 1 rfl) ?_
      refine mo_get X rfl h 25 (by decide) rfl gf_MO_77 rfl d_MO_step_104 ?_
      refine lv_iconst (v := nI 4) hx hb d_MO_step_107 (by decide) ?_
      refine lv_iload_n hx hb d_MO_step_108 rfl (lv_at hl 2 rfl) ?_
      refine lk_imulN hx hb d_MO_step_109 ?_
      refine lv_iconst (v := nI 1) hx hb d_MO_step_110 (by decide) ?_
      refine lk_iaddN hx hb d_MO_step_111 ?_
      refine lv_dup2_11 hx hb d_MO_step_112 rfl rfl ?_
      refine mo_ald X h 22 16 rfl (by decide) (j := 4 * t + 1) (by omega) (by decide) d_MO_step_113 ?_
      refine lk_top (((mm_searches M0 t p n v rt).2) 22 (4 * t + 1)) (lk_st_p (by omega)) ?_
      refine lv_iconst (v := 1) hx hb d_MO_step_114 (by decide) ?_
      refine lv_iadd hx hb d_MO_step_115 ?_
      refine mo_ast X h 22 16 rfl (by decide) (j := 4 * t + 1) (v := (((mm_searches M0 t p n v rt).2) 22 (4 * t + 1)) + 1) (by omega) (by decide) d_MO_step_116 (fun H locs h => ?_)
      refine lv_iload_n hx hb d_MO_step_117 rfl (lv_at hl 0 rfl) ?_
      exact lk_reti X h d_MO_step_118 (by rw [e0, mm_cnt, if_pos h100]; exact ⟨rfl, rfl⟩)
end
section
def mm_bj (M : lk_M) (t nq rt x : Nat) : lk_M :=
  if nq = 0 then lk_st M 15 t 0 else if x = rt then lk_lq (lk_st M 15 t 0) (nI x) nq else lk_st (lk_st (lk_st (lk_lq (lk_st M 15 t 0) (nI x) nq) 18 t (nI x)) 15 t (M 3 x)) 16 t (M 1 x + 1)
theorem lk_lq_r {σ : lk_M} {x : Int32} {n : Nat} : lk_lq σ x n 24 0 = σ 24 0 := by
  unfold lk_lq
  simp only [lk_up_eq, upd]
  simp
set_option maxRecDepth 20000 in
theorem c_MO_beginJoin (l : Launch) (D : va_G) (τ : Nat → ClassId) (ad : Nat → Nat) (M : lk_M) (t nq rt x : Nat) (ht : t < 4) (hnq : nq ≤ 12) (hq0 : M 24 1 = nI nq) (hrt : rt < 24) (hr0 : M 24 0 = nI rt) (hx0 : 0 < nq → x < 24 ∧ M 10 0 = nI x) : lk_Cv l D τ 25 ad (lk_me τ ad) y_MO_beginJoin b_MO_beginJoin 3 1 23 [.ref (ad 0), .int (nI t)] M (fun M1 => M1 = mm_bj M t nq rt x) := by
  refine lk_openv (by decide +kernel) (Nat.le_of_ble_eq_true rfl) ?_
  intro pg en s m args below meth cd ls A X h hA hl
  obtain ⟨hx, hb, -⟩ := id X
  have hl : lv_has ls 3 [(0, .ref (ad 0)), (1, .int (nI t))] := hl
  refine lv_aload_n hx hb d_MO_beginJoin_0 rfl (lv_at hl 0 rfl) ?_
  refine mo_get X rfl h 18 (by decide) rfl gf_MO_56 rfl d_MO_beginJoin_1 ?_
  refine lv_iload_n hx hb d_MO_beginJoin_4 rfl (lv_at hl 1 rfl) ?_
  refine lv_iconst (v := 0) hx hb d_MO_beginJoin_5 (by decide) ?_
  refine mo_ast X h 15 4 rfl (by decide) (j := t) (v := 0) (by omega) (by decide) d_MO_beginJoin_6 (fun H locs h => ?_)
  refine lv_aload_n hx hb d_MO_beginJoin_7 rfl (lv_at hl 0 rfl) ?_
  refine mo_get X rfl h 12 (by decide) rfl gf_MO_91 rfl d_MO_beginJoin_8 ?_
  refine lk_top (nI nq) ((lk_st_f (by decide)).trans (hq0)) ?_
  refine lv_if_ne (tgt := 15) hx hb d_MO_beginJoin_11 (by decide) (fun h11 => ?_) (fun h11 => ?_)
  · have hne : nq ≠ 0 := fun z => h11 (by rw [z]; rfl)
    obtain ⟨hx1, hx2⟩ := hx0 (by omega)
    refine lv_aload_n hx hb d_MO_beginJoin_15 rfl (lv_at hl 0 rfl) ?_
    refine mo_get X rfl h 13 (by decide) rfl gf_MO_40 rfl d_MO_beginJoin_16 ?_
    refine lv_iconst (v := nI 0) hx hb d_MO_beginJoin_19 (by decide) ?_
    refine mo_ald X h 10 12 rfl (by decide) (j := 0) (by omega) (by decide) d_MO_beginJoin_20 ?_
    refine lk_top (nI x) ((lk_st_f (by decide)).trans (hx2)) ?_
    refine lv_istore_n hx hb d_MO_beginJoin_21 rfl hl (by decide) rfl (fun ls hl => ?_)
    have hl : lv_has ls 3 [(2, .int (nI x)), (0, .ref (ad 0)), (1, .int (nI t))] := hl
    refine lv_aload_n hx hb d_MO_beginJoin_22 rfl (lv_at hl 1 rfl) ?_
    refine lv_iload_n hx hb d_MO_beginJoin_23 rfl (lv_at hl 0 rfl) ?_
    refine lk_gov (lk_runV (As := [.int (nI x)]) (C := R_MO) X h (c_MO_leaveQueue l D τ ad _ nq ((lk_st_f (by decide)).trans hq0) hnq (nI x)) ⟨gc_MO_leaveQueue, gm_MO_94, gn_MO, gd_MO_leaveQueue, by decide, by decide⟩ gi_MO_leaveQueue gs_MO_leaveQueue ⟨0, 4, _, _, _, lk_w_get (by decide), rfl⟩ rfl hl.1 (Nat.le_of_ble_eq_true rfl) d_MO_beginJoin_24 ⟨Nat.zero_le _, Nat.zero_le _⟩) h hA (fun σ24 H locs hk9 h => ?_)
    rw [hk9] at h
    refine lv_iload_n hx hb d_MO_beginJoin_27 rfl (lv_at hl 0 rfl) ?_
    refine lv_aload_n hx hb d_MO_beginJoin_28 rfl (lv_at hl 1 rfl) ?_
    refine mo_get X rfl h 11 (by decide) rfl gf_MO_108 rfl d_MO_beginJoin_29 ?_
    refine lk_top (nI rt) (lk_lq_r.trans ((lk_st_f (by decide)).trans hr0)) ?_
    refine lk_cN_ne (tgt := 36) hx hb (by omega) (by omega) d_MO_beginJoin_32 (by decide) (fun h32 => ?_) (fun h32 => ?_)
    · refine lv_aload_n hx hb d_MO_beginJoin_36 rfl (lv_at hl 1 rfl) ?_
      refine mo_get X rfl h 21 (by decide) rfl gf_MO_65 rfl d_MO_beginJoin_37 ?_
      refine lv_iload_n hx hb d_MO_beginJoin_40 rfl (lv_at hl 2 rfl) ?_
      refine lv_iload_n hx hb d_MO_beginJoin_41 rfl (lv_at hl 0 rfl) ?_
      refine mo_ast X h 18 4 rfl (by decide) (j := t) (v := nI x) (by omega) (by decide) d_MO_beginJoin_42 (fun H locs h => ?_)
      refine lv_aload_n hx hb d_MO_beginJoin_43 rfl (lv_at hl 1 rfl) ?_
      refine mo_get X rfl h 18 (by decide) rfl gf_MO_56 rfl d_MO_beginJoin_44 ?_
      refine lv_iload_n hx hb d_MO_beginJoin_47 rfl (lv_at hl 2 rfl) ?_
      refine lv_aload_n hx hb d_MO_beginJoin_48 rfl (lv_at hl 1 rfl) ?_
      refine mo_get X rfl h 4 (by decide) rfl gf_MO_19 rfl d_MO_beginJoin_49 ?_
      refine lv_iload_n hx hb d_MO_beginJoin_52 rfl (lv_at hl 0 rfl) ?_
      refine mo_ald X h 3 24 rfl (by decide) (j := x) (by omega) (by decide) d_MO_beginJoin_53 ?_
      refine lk_top (M 3 x) ((lk_st_f (by decide)).trans ((lk_lq_f (by decide) (by decide)).trans (lk_st_f (by decide)))) ?_
      refine mo_ast X h 15 4 rfl (by decide) (j := t) (v := M 3 x) (by omega) (by decide) d_MO_beginJoin_54 (fun H locs h => ?_)
      refine lv_aload_n hx hb d_MO_beginJoin_55 rfl (lv_at hl 1 rfl) ?_
      refine mo_get X rfl h 19 (by decide) rfl gf_MO_59 rfl d_MO_beginJoin_56 ?_
      refine lv_iload_n hx hb d_MO_beginJoin_59 rfl (lv_at hl 2 rfl) ?_
      refine lv_aload_n hx hb d_MO_beginJoin_60 rfl (lv_at hl 1 rfl) ?_
      refine mo_get X rfl h 2 (by decide) rfl gf_MO_13 rfl d_MO_beginJoin_61 ?_
      refine lv_iload_n hx hb d_MO_beginJoin_64 rfl (lv_at hl 0 rfl) ?_
      refine mo_ald X h 1 24 rfl (by decide) (j := x) (by omega) (by decide) d_MO_beginJoin_65 ?_
      refine lk_top (M 1 x) ((lk_st_f (by decide)).trans ((lk_st_f (by decide)).trans ((lk_lq_f (by decide) (by decide)).trans (lk_st_f (by decide))))) ?_
      refine lv_iconst (v := 1) hx hb d_MO_beginJoin_66 (by decide) ?_
      refine lv_iadd hx hb d_MO_beginJoin_67 ?_
      refine mo_ast X h 16 4 rfl (by decide) (j := t) (v := (M 1 x) + 1) (by omega) (by decide) d_MO_beginJoin_68 (fun H locs h => ?_)
      exact lk_retv X h d_MO_beginJoin_69 (by rw [mm_bj, if_neg hne, if_neg h32])
    · exact lk_retv X h d_MO_beginJoin_35 (by rw [mm_bj, if_neg hne, if_pos h32])
  · exact lk_retv X h d_MO_beginJoin_14 (by rw [mm_bj, if_pos (show nq = 0 from (nI_eq (b := 0) (by omega) (by omega)).mp h11)])
def mm_beg0 (M : lk_M) (t : Nat) (o k v : Int32) : lk_M :=
  lk_srch (lk_nop (lk_st (lk_st (lk_st (lk_st (lk_st (lk_st M 11 t 1) 12 t o) 15 t k) 16 t 0) 17 t v) 18 t (-1)) t) t (M 24 0)
def lk_bok (x o k : Int32) : Prop := (0 ≤ x ∧ x ≤ 3) ∧ (0 ≤ o ∧ o ≤ 3) ∧ (o = 3 ∨ (0 ≤ k ∧ k ≤ 999))
set_option maxRecDepth 20000 in
theorem c_MO_begin_bad (l : Launch) (D : va_G) (τ : Nat → ClassId) (ad : Nat → Nat) (M : lk_M) (x o k v : Int32) (hbad : ¬ lk_bok x o k) : lk_Cv l D τ 25 ad (lk_me τ ad) y_MO_begin b_MO_begin 5 2 45 [.ref (ad 0), .int x, .int o, .int k, .int v] M (fun M1 => M1 = lk_st M 24 2 1) := by
  refine lk_openv (by decide +kernel) (Nat.le_of_ble_eq_true rfl) ?_
  intro pg en s m args below meth cd ls A X h hA hl
  obtain ⟨hx, hb, -⟩ := id X
  have hl : lv_has ls 5 [(0, .ref (ad 0)), (1, .int x), (2, .int o), (3, .int k), (4, .int v)] := hl
  refine lv_aload_n hx hb d_MO_begin_0 rfl (lv_at hl 0 rfl) ?_
  refine lv_aload_n hx hb d_MO_begin_1 rfl (lv_at hl 0 rfl) ?_
  refine lv_iload_n hx hb d_MO_begin_2 rfl (lv_at hl 1 rfl) ?_
  by_cases h1 : 0 ≤ x ∧ x ≤ 3
  · refine lk_goi (lk_runV (As := [.int x]) (C := R_MO) X h (c_MO_isTask l D τ ad M x) ⟨gc_MO_isTask, gm_MO_115, gn_MO, gd_MO_isTask, by decide, by decide⟩ gi_MO_isTask gs_MO_isTask ⟨0, 4, _, _, _, lk_w_get (by decide), rfl⟩ rfl hl.1 (Nat.le_of_ble_eq_true rfl) d_MO_begin_3 ⟨Nat.zero_le _, Nat.zero_le _⟩) h hA (fun r3 σ3 H locs hk9 h => ?_)
    rw [hk9.2] at h
    rw [hk9.1, if_pos h1]
    refine lv_if_eq (tgt := 34) hx hb d_MO_begin_6 (by decide) (fun z => absurd z (by decide)) (fun _ => ?_)
    refine lv_iload_n hx hb d_MO_begin_9 rfl (lv_at hl 2 rfl) ?_
    refine lv_iconst (v := 0) hx hb d_MO_begin_10 (by decide) ?_
    refine lv_iconst (v := 3) hx hb d_MO_begin_11 (by decide) ?_
    by_cases h2 : 0 ≤ o ∧ o ≤ 3
    · refine lk_goi (lk_runS (As := [.int o, .int 0, .int 3]) X h (c_MO_within l D τ ad M o 0 3) ⟨gc_MO_within, gm_MO_101, gn_MO, gd_MO_within, by decide, by decide⟩ gt_MO_within rfl hl.1 (Nat.le_of_ble_eq_true rfl) d_MO_begin_12 ⟨Nat.zero_le _, Nat.zero_le _⟩) h hA (fun r12 σ12 H locs hk9 h => ?_)
      rw [hk9.2] at h
      rw [hk9.1, if_pos h2]
      refine lv_if_eq (tgt := 34) hx hb d_MO_begin_15 (by decide) (fun z => absurd z (by decide)) (fun _ => ?_)
      refine lv_iload_n hx hb d_MO_begin_18 rfl (lv_at hl 2 rfl) ?_
      refine lv_iconst (v := 3) hx hb d_MO_begin_19 (by decide) ?_
      refine lv_icmp_eq (tgt := 38) hx hb d_MO_begin_20 (by decide) (fun h3 => ?_) (fun h3 => ?_)
      · exact absurd ⟨h1, h2, Or.inl h3⟩ hbad
      · refine lv_iload_n hx hb d_MO_begin_23 rfl (lv_at hl 3 rfl) ?_
        refine lv_iconst (v := 0) hx hb d_MO_begin_24 (by decide) ?_
        refine lv_sipush (v := 999) hx hb d_MO_begin_25 (by decide) ?_
        refine lk_goi (lk_runS (As := [.int k, .int 0, .int 999]) X h (c_MO_within l D τ ad M k 0 999) ⟨gc_MO_within, gm_MO_101, gn_MO, gd_MO_within, by decide, by decide⟩ gt_MO_within rfl hl.1 (Nat.le_of_ble_eq_true rfl) d_MO_begin_28 ⟨Nat.zero_le _, Nat.zero_le _⟩) h hA (fun r28 σ28 H locs hk9 h => ?_)
        rw [hk9.2] at h
        rw [hk9.1, if_neg (fun z => hbad ⟨h1, h2, Or.inr z⟩)]
        refine lv_if_ne (tgt := 38) hx hb d_MO_begin_31 (by decide) (fun z => absurd z (by decide)) (fun _ => ?_)
        refine lv_iconst (v := 1) hx hb d_MO_begin_34 (by decide) ?_
        refine lv_goto (tgt := 39) hx hb d_MO_begin_35 (by decide) ?_
        refine lv_iconst (v := 1) hx hb d_MO_begin_39 (by decide) ?_
        refine lk_goi (lk_runV (As := [.int 1, .int 1]) (C := R_MO) X h (c_MO_fails l D τ ad _ 1 1 (by decide)) ⟨gc_MO_fails, gm_MO_119, gn_MO, gd_MO_fails, by decide, by decide⟩ gi_MO_fails gs_MO_fails ⟨0, 4, _, _, _, lk_w_get (by decide), rfl⟩ rfl hl.1 (Nat.le_of_ble_eq_true rfl) d_MO_begin_40 ⟨Nat.zero_le _, Nat.zero_le _⟩) h hA (fun r40 σ40 H locs hk9 h => ?_)
        rw [hk9.2, if_neg (by decide)] at h
        rw [hk9.1]
        refine lv_if_ne (tgt := 60) hx hb d_MO_begin_43 (by decide) (fun _ => ?_) (fun z => absurd z (by decide))
        exact lk_retv X h d_MO_begin_60 (rfl)
    · refine lk_goi (lk_runS (As := [.int o, .int 0, .int 3]) X h (c_MO_within l D τ ad M o 0 3) ⟨gc_MO_within, gm_MO_101, gn_MO, gd_MO_within, by decide, by decide⟩ gt_MO_within rfl hl.1 (Nat.le_of_ble_eq_true rfl) d_MO_begin_12 ⟨Nat.zero_le _, Nat.zero_le _⟩) h hA (fun r12 σ12 H locs hk9 h => ?_)
      rw [hk9.2] at h
      rw [hk9.1, if_neg h2]
      refine lv_if_eq (tgt := 34) hx hb d_MO_begin_15 (by decide) (fun _ => ?_) (fun z => absurd z (by decide))
      refine lv_iconst (v := 1) hx hb d_MO_begin_34 (by decide) ?_
      refine lv_goto (tgt := 39) hx hb d_MO_begin_35 (by decide) ?_
      refine lv_iconst (v := 1) hx hb d_MO_begin_39 (by decide) ?_
      refine lk_goi (lk_runV (As := [.int 1, .int 1]) (C := R_MO) X h (c_MO_fails l D τ ad _ 1 1 (by decide)) ⟨gc_MO_fails, gm_MO_119, gn_MO, gd_MO_fails, by decide, by decide⟩ gi_MO_fails gs_MO_fails ⟨0, 4, _, _, _, lk_w_get (by decide), rfl⟩ rfl hl.1 (Nat.le_of_ble_eq_true rfl) d_MO_begin_40 ⟨Nat.zero_le _, Nat.zero_le _⟩) h hA (fun r40 σ40 H locs hk9 h => ?_)
      rw [hk9.2, if_neg (by decide)] at h
      rw [hk9.1]
      refine lv_if_ne (tgt := 60) hx hb d_MO_begin_43 (by decide) (fun _ => ?_) (fun z => absurd z (by decide))
      exact lk_retv X h d_MO_begin_60 (rfl)
  · refine lk_goi (lk_runV (As := [.int x]) (C := R_MO) X h (c_MO_isTask l D τ ad M x) ⟨gc_MO_isTask, gm_MO_115, gn_MO, gd_MO_isTask, by decide, by decide⟩ gi_MO_isTask gs_MO_isTask ⟨0, 4, _, _, _, lk_w_get (by decide), rfl⟩ rfl hl.1 (Nat.le_of_ble_eq_true rfl) d_MO_begin_3 ⟨Nat.zero_le _, Nat.zero_le _⟩) h hA (fun r3 σ3 H locs hk9 h => ?_)
    rw [hk9.2] at h
    rw [hk9.1, if_neg h1]
    refine lv_if_eq (tgt := 34) hx hb d_MO_begin_6 (by decide) (fun _ => ?_) (fun z => absurd z (by decide))
    refine lv_iconst (v := 1) hx hb d_MO_begin_34 (by decide) ?_
    refine lv_goto (tgt := 39) hx hb d_MO_begin_35 (by decide) ?_
    refine lv_iconst (v := 1) hx hb d_MO_begin_39 (by decide) ?_
    refine lk_goi (lk_runV (As := [.int 1, .int 1]) (C := R_MO) X h (c_MO_fails l D τ ad _ 1 1 (by decide)) ⟨gc_MO_fails, gm_MO_119, gn_MO, gd_MO_fails, by decide, by decide⟩ gi_MO_fails gs_MO_fails ⟨0, 4, _, _, _, lk_w_get (by decide), rfl⟩ rfl hl.1 (Nat.le_of_ble_eq_true rfl) d_MO_begin_40 ⟨Nat.zero_le _, Nat.zero_le _⟩) h hA (fun r40 σ40 H locs hk9 h => ?_)
    rw [hk9.2, if_neg (by decide)] at h
    rw [hk9.1]
    refine lv_if_ne (tgt := 60) hx hb d_MO_begin_43 (by decide) (fun _ => ?_) (fun z => absurd z (by decide))
    exact lk_retv X h d_MO_begin_60 (rfl)
set_option maxRecDepth 20000 in
theorem c_MO_begin_no (l : Launch) (D : va_G) (τ : Nat → ClassId) (ad : Nat → Nat) (M : lk_M) (t : Nat) (ht : t < 4) (o k v : Int32) (hok : lk_bok (nI t) o k) (hbu : M 11 t = 1) : lk_Cv l D τ 25 ad (lk_me τ ad) y_MO_begin b_MO_begin 5 2 45 [.ref (ad 0), .int (nI t), .int o, .int k, .int v] M (fun M1 => M1 = lk_st M 24 2 2) := by
  refine lk_openv (by decide +kernel) (Nat.le_of_ble_eq_true rfl) ?_
  intro pg en s m args below meth cd ls A X h hA hl
  obtain ⟨hx, hb, -⟩ := id X
  have hl : lv_has ls 5 [(0, .ref (ad 0)), (1, .int (nI t)), (2, .int o), (3, .int k), (4, .int v)] := hl
  obtain ⟨h1, h2, h3⟩ := hok
  refine lv_aload_n hx hb d_MO_begin_0 rfl (lv_at hl 0 rfl) ?_
  refine lv_aload_n hx hb d_MO_begin_1 rfl (lv_at hl 0 rfl) ?_
  refine lv_iload_n hx hb d_MO_begin_2 rfl (lv_at hl 1 rfl) ?_
  refine lk_goi (lk_runV (As := [.int (nI t)]) (C := R_MO) X h (c_MO_isTask l D τ ad M (nI t)) ⟨gc_MO_isTask, gm_MO_115, gn_MO, gd_MO_isTask, by decide, by decide⟩ gi_MO_isTask gs_MO_isTask ⟨0, 4, _, _, _, lk_w_get (by decide), rfl⟩ rfl hl.1 (Nat.le_of_ble_eq_true rfl) d_MO_begin_3 ⟨Nat.zero_le _, Nat.zero_le _⟩) h hA (fun r3 σ3 H locs hk9 h => ?_)
  rw [hk9.2] at h
  rw [hk9.1, if_pos h1]
  refine lv_if_eq (tgt := 34) hx hb d_MO_begin_6 (by decide) (fun z => absurd z (by decide)) (fun _ => ?_)
  refine lv_iload_n hx hb d_MO_begin_9 rfl (lv_at hl 2 rfl) ?_
  refine lv_iconst (v := 0) hx hb d_MO_begin_10 (by decide) ?_
  refine lv_iconst (v := 3) hx hb d_MO_begin_11 (by decide) ?_
  refine lk_goi (lk_runS (As := [.int o, .int 0, .int 3]) X h (c_MO_within l D τ ad M o 0 3) ⟨gc_MO_within, gm_MO_101, gn_MO, gd_MO_within, by decide, by decide⟩ gt_MO_within rfl hl.1 (Nat.le_of_ble_eq_true rfl) d_MO_begin_12 ⟨Nat.zero_le _, Nat.zero_le _⟩) h hA (fun r12 σ12 H locs hk9 h => ?_)
  rw [hk9.2] at h
  rw [hk9.1, if_pos h2]
  refine lv_if_eq (tgt := 34) hx hb d_MO_begin_15 (by decide) (fun z => absurd z (by decide)) (fun _ => ?_)
  refine lv_iload_n hx hb d_MO_begin_18 rfl (lv_at hl 2 rfl) ?_
  refine lv_iconst (v := 3) hx hb d_MO_begin_19 (by decide) ?_
  refine lv_icmp_eq (tgt := 38) hx hb d_MO_begin_20 (by decide) (fun h4 => ?_) (fun h4 => ?_)
  · refine lv_iconst (v := 0) hx hb d_MO_begin_38 (by decide) ?_
    refine lv_iconst (v := 1) hx hb d_MO_begin_39 (by decide) ?_
    refine lk_goi (lk_runV (As := [.int 0, .int 1]) (C := R_MO) X h (c_MO_fails l D τ ad _ 0 1 (by decide)) ⟨gc_MO_fails, gm_MO_119, gn_MO, gd_MO_fails, by decide, by decide⟩ gi_MO_fails gs_MO_fails ⟨0, 4, _, _, _, lk_w_get (by decide), rfl⟩ rfl hl.1 (Nat.le_of_ble_eq_true rfl) d_MO_begin_40 ⟨Nat.zero_le _, Nat.zero_le _⟩) h hA (fun r40 σ40 H locs hk9 h => ?_)
    rw [hk9.2, if_pos rfl] at h
    rw [hk9.1]
    refine lv_if_ne (tgt := 60) hx hb d_MO_begin_43 (by decide) (fun z => absurd z (by decide)) (fun _ => ?_)
    refine lv_aload_n hx hb d_MO_begin_46 rfl (lv_at hl 0 rfl) ?_
    refine lv_aload_n hx hb d_MO_begin_47 rfl (lv_at hl 0 rfl) ?_
    refine mo_get X rfl h 14 (by decide) rfl gf_MO_43 rfl d_MO_begin_48 ?_
    refine lv_iload_n hx hb d_MO_begin_51 rfl (lv_at hl 1 rfl) ?_
    refine mo_zald X h 11 (by decide) (j := t) (by omega) d_MO_begin_52 ?_
    refine lk_top 1 ((lk_st_f (by decide)).trans hbu) ?_
    refine lv_iconst (v := 2) hx hb d_MO_begin_53 (by decide) ?_
    refine lk_goi (lk_runV (As := [.int 1, .int 2]) (C := R_MO) X h (c_MO_fails l D τ ad _ 1 2 (by decide)) ⟨gc_MO_fails, gm_MO_119, gn_MO, gd_MO_fails, by decide, by decide⟩ gi_MO_fails gs_MO_fails ⟨0, 4, _, _, _, lk_w_get (by decide), rfl⟩ rfl hl.1 (Nat.le_of_ble_eq_true rfl) d_MO_begin_54 ⟨Nat.zero_le _, Nat.zero_le _⟩) h hA (fun r54 σ54 H locs hk9 h => ?_)
    rw [hk9.2, if_neg (by decide)] at h
    rw [hk9.1]
    rw [lk_st_st] at h
    refine lv_if_eq (tgt := 61) hx hb d_MO_begin_57 (by decide) (fun z => absurd z (by decide)) (fun _ => ?_)
    exact lk_retv X h d_MO_begin_60 (rfl)
  · refine lv_iload_n hx hb d_MO_begin_23 rfl (lv_at hl 3 rfl) ?_
    refine lv_iconst (v := 0) hx hb d_MO_begin_24 (by decide) ?_
    refine lv_sipush (v := 999) hx hb d_MO_begin_25 (by decide) ?_
    refine lk_goi (lk_runS (As := [.int k, .int 0, .int 999]) X h (c_MO_within l D τ ad M k 0 999) ⟨gc_MO_within, gm_MO_101, gn_MO, gd_MO_within, by decide, by decide⟩ gt_MO_within rfl hl.1 (Nat.le_of_ble_eq_true rfl) d_MO_begin_28 ⟨Nat.zero_le _, Nat.zero_le _⟩) h hA (fun r28 σ28 H locs hk9 h => ?_)
    rw [hk9.2] at h
    rw [hk9.1, if_pos (h3.resolve_left h4)]
    refine lv_if_ne (tgt := 38) hx hb d_MO_begin_31 (by decide) (fun _ => ?_) (fun z => absurd z (by decide))
    refine lv_iconst (v := 0) hx hb d_MO_begin_38 (by decide) ?_
    refine lv_iconst (v := 1) hx hb d_MO_begin_39 (by decide) ?_
    refine lk_goi (lk_runV (As := [.int 0, .int 1]) (C := R_MO) X h (c_MO_fails l D τ ad _ 0 1 (by decide)) ⟨gc_MO_fails, gm_MO_119, gn_MO, gd_MO_fails, by decide, by decide⟩ gi_MO_fails gs_MO_fails ⟨0, 4, _, _, _, lk_w_get (by decide), rfl⟩ rfl hl.1 (Nat.le_of_ble_eq_true rfl) d_MO_begin_40 ⟨Nat.zero_le _, Nat.zero_le _⟩) h hA (fun r40 σ40 H locs hk9 h => ?_)
    rw [hk9.2, if_pos rfl] at h
    rw [hk9.1]
    refine lv_if_ne (tgt := 60) hx hb d_MO_begin_43 (by decide) (fun z => absurd z (by decide)) (fun _ => ?_)
    refine lv_aload_n hx hb d_MO_begin_46 rfl (lv_at hl 0 rfl) ?_
    refine lv_aload_n hx hb d_MO_begin_47 rfl (lv_at hl 0 rfl) ?_
    refine mo_get X rfl h 14 (by decide) rfl gf_MO_43 rfl d_MO_begin_48 ?_
    refine lv_iload_n hx hb d_MO_begin_51 rfl (lv_at hl 1 rfl) ?_
    refine mo_zald X h 11 (by decide) (j := t) (by omega) d_MO_begin_52 ?_
    refine lk_top 1 ((lk_st_f (by decide)).trans hbu) ?_
    refine lv_iconst (v := 2) hx hb d_MO_begin_53 (by decide) ?_
    refine lk_goi (lk_runV (As := [.int 1, .int 2]) (C := R_MO) X h (c_MO_fails l D τ ad _ 1 2 (by decide)) ⟨gc_MO_fails, gm_MO_119, gn_MO, gd_MO_fails, by decide, by decide⟩ gi_MO_fails gs_MO_fails ⟨0, 4, _, _, _, lk_w_get (by decide), rfl⟩ rfl hl.1 (Nat.le_of_ble_eq_true rfl) d_MO_begin_54 ⟨Nat.zero_le _, Nat.zero_le _⟩) h hA (fun r54 σ54 H locs hk9 h => ?_)
    rw [hk9.2, if_neg (by decide)] at h
    rw [hk9.1]
    rw [lk_st_st] at h
    refine lv_if_eq (tgt := 61) hx hb d_MO_begin_57 (by decide) (fun z => absurd z (by decide)) (fun _ => ?_)
    exact lk_retv X h d_MO_begin_60 (rfl)
set_option maxRecDepth 20000 in
theorem c_MO_begin (l : Launch) (D : va_G) (τ : Nat → ClassId) (ad : Nat → Nat) (M : lk_M) (t nq rt x : Nat) (ht : t < 4) (o k v : Int32) (hok : lk_bok (nI t) o k) (hbu : M 11 t = 0) (hnq : nq ≤ 12) (hq0 : M 24 1 = nI nq) (hrt : rt < 24) (hr0 : M 24 0 = nI rt) (hx0 : 0 < nq → x < 24 ∧ M 10 0 = nI x) : lk_Cv l D τ 25 ad (lk_me τ ad) y_MO_begin b_MO_begin 5 2 45 [.ref (ad 0), .int (nI t), .int o, .int k, .int v] M (fun M1 => M1 = if o = 3 then mm_bj (mm_beg0 (lk_st M 24 2 0) t o k v) t nq rt x else mm_beg0 (lk_st M 24 2 0) t o k v) := by
  refine lk_openv (by decide +kernel) (Nat.le_of_ble_eq_true rfl) ?_
  intro pg en s m args below meth cd ls A X h hA hl
  obtain ⟨hx, hb, -⟩ := id X
  have hl : lv_has ls 5 [(0, .ref (ad 0)), (1, .int (nI t)), (2, .int o), (3, .int k), (4, .int v)] := hl
  obtain ⟨h1, h2, h3⟩ := hok
  refine lv_aload_n hx hb d_MO_begin_0 rfl (lv_at hl 0 rfl) ?_
  refine lv_aload_n hx hb d_MO_begin_1 rfl (lv_at hl 0 rfl) ?_
  refine lv_iload_n hx hb d_MO_begin_2 rfl (lv_at hl 1 rfl) ?_
  refine lk_goi (lk_runV (As := [.int (nI t)]) (C := R_MO) X h (c_MO_isTask l D τ ad M (nI t)) ⟨gc_MO_isTask, gm_MO_115, gn_MO, gd_MO_isTask, by decide, by decide⟩ gi_MO_isTask gs_MO_isTask ⟨0, 4, _, _, _, lk_w_get (by decide), rfl⟩ rfl hl.1 (Nat.le_of_ble_eq_true rfl) d_MO_begin_3 ⟨Nat.zero_le _, Nat.zero_le _⟩) h hA (fun r3 σ3 H locs hk9 h => ?_)
  rw [hk9.2] at h
  rw [hk9.1, if_pos h1]
  refine lv_if_eq (tgt := 34) hx hb d_MO_begin_6 (by decide) (fun z => absurd z (by decide)) (fun _ => ?_)
  refine lv_iload_n hx hb d_MO_begin_9 rfl (lv_at hl 2 rfl) ?_
  refine lv_iconst (v := 0) hx hb d_MO_begin_10 (by decide) ?_
  refine lv_iconst (v := 3) hx hb d_MO_begin_11 (by decide) ?_
  refine lk_goi (lk_runS (As := [.int o, .int 0, .int 3]) X h (c_MO_within l D τ ad M o 0 3) ⟨gc_MO_within, gm_MO_101, gn_MO, gd_MO_within, by decide, by decide⟩ gt_MO_within rfl hl.1 (Nat.le_of_ble_eq_true rfl) d_MO_begin_12 ⟨Nat.zero_le _, Nat.zero_le _⟩) h hA (fun r12 σ12 H locs hk9 h => ?_)
  rw [hk9.2] at h
  rw [hk9.1, if_pos h2]
  refine lv_if_eq (tgt := 34) hx hb d_MO_begin_15 (by decide) (fun z => absurd z (by decide)) (fun _ => ?_)
  refine lv_iload_n hx hb d_MO_begin_18 rfl (lv_at hl 2 rfl) ?_
  refine lv_iconst (v := 3) hx hb d_MO_begin_19 (by decide) ?_
  refine lv_icmp_eq (tgt := 38) hx hb d_MO_begin_20 (by decide) (fun h4 => ?_) (fun h4 => ?_)
  · refine lv_iconst (v := 0) hx hb d_MO_begin_38 (by decide) ?_
    refine lv_iconst (v := 1) hx hb d_MO_begin_39 (by decide) ?_
    refine lk_goi (lk_runV (As := [.int 0, .int 1]) (C := R_MO) X h (c_MO_fails l D τ ad _ 0 1 (by decide)) ⟨gc_MO_fails, gm_MO_119, gn_MO, gd_MO_fails, by decide, by decide⟩ gi_MO_fails gs_MO_fails ⟨0, 4, _, _, _, lk_w_get (by decide), rfl⟩ rfl hl.1 (Nat.le_of_ble_eq_true rfl) d_MO_begin_40 ⟨Nat.zero_le _, Nat.zero_le _⟩) h hA (fun r40 σ40 H locs hk9 h => ?_)
    rw [hk9.2, if_pos rfl] at h
    rw [hk9.1]
    refine lv_if_ne (tgt := 60) hx hb d_MO_begin_43 (by decide) (fun z => absurd z (by decide)) (fun _ => ?_)
    refine lv_aload_n hx hb d_MO_begin_46 rfl (lv_at hl 0 rfl) ?_
    refine lv_aload_n hx hb d_MO_begin_47 rfl (lv_at hl 0 rfl) ?_
    refine mo_get X rfl h 14 (by decide) rfl gf_MO_43 rfl d_MO_begin_48 ?_
    refine lv_iload_n hx hb d_MO_begin_51 rfl (lv_at hl 1 rfl) ?_
    refine mo_zald X h 11 (by decide) (j := t) (by omega) d_MO_begin_52 ?_
    refine lk_top 0 ((lk_st_f (by decide)).trans hbu) ?_
    refine lv_iconst (v := 2) hx hb d_MO_begin_53 (by decide) ?_
    refine lk_goi (lk_runV (As := [.int 0, .int 2]) (C := R_MO) X h (c_MO_fails l D τ ad _ 0 2 (by decide)) ⟨gc_MO_fails, gm_MO_119, gn_MO, gd_MO_fails, by decide, by decide⟩ gi_MO_fails gs_MO_fails ⟨0, 4, _, _, _, lk_w_get (by decide), rfl⟩ rfl hl.1 (Nat.le_of_ble_eq_true rfl) d_MO_begin_54 ⟨Nat.zero_le _, Nat.zero_le _⟩) h hA (fun r54 σ54 H locs hk9 h => ?_)
    rw [hk9.2, if_pos rfl] at h
    rw [hk9.1]
    rw [lk_st_st] at h
    refine lv_if_eq (tgt := 61) hx hb d_MO_begin_57 (by decide) (fun _ => ?_) (fun z => absurd z (by decide))
    refine lv_aload_n hx hb d_MO_begin_61 rfl (lv_at hl 0 rfl) ?_
    refine mo_get X rfl h 14 (by decide) rfl gf_MO_43 rfl d_MO_begin_62 ?_
    refine lv_iload_n hx hb d_MO_begin_65 rfl (lv_at hl 1 rfl) ?_
    refine lv_iconst (v := 1) hx hb d_MO_begin_66 (by decide) ?_
    refine mo_zast X h 11 (by decide) (j := t) (v := 1) (by decide) (by omega) d_MO_begin_67 (fun H locs h => ?_)
    refine lv_aload_n hx hb d_MO_begin_68 rfl (lv_at hl 0 rfl) ?_
    refine mo_get X rfl h 15 (by decide) rfl gf_MO_47 rfl d_MO_begin_69 ?_
    refine lv_iload_n hx hb d_MO_begin_72 rfl (lv_at hl 1 rfl) ?_
    refine lv_iload_n hx hb d_MO_begin_73 rfl (lv_at hl 2 rfl) ?_
    refine mo_ast X h 12 4 rfl (by decide) (j := t) (v := o) (by omega) (by decide) d_MO_begin_74 (fun H locs h => ?_)
    refine lv_aload_n hx hb d_MO_begin_75 rfl (lv_at hl 0 rfl) ?_
    refine mo_get X rfl h 18 (by decide) rfl gf_MO_56 rfl d_MO_begin_76 ?_
    refine lv_iload_n hx hb d_MO_begin_79 rfl (lv_at hl 1 rfl) ?_
    refine lv_iload_n hx hb d_MO_begin_80 rfl (lv_at hl 3 rfl) ?_
    refine mo_ast X h 15 4 rfl (by decide) (j := t) (v := k) (by omega) (by decide) d_MO_begin_81 (fun H locs h => ?_)
    refine lv_aload_n hx hb d_MO_begin_82 rfl (lv_at hl 0 rfl) ?_
    refine mo_get X rfl h 19 (by decide) rfl gf_MO_59 rfl d_MO_begin_83 ?_
    refine lv_iload_n hx hb d_MO_begin_86 rfl (lv_at hl 1 rfl) ?_
    refine lv_iconst (v := 0) hx hb d_MO_begin_87 (by decide) ?_
    refine mo_ast X h 16 4 rfl (by decide) (j := t) (v := 0) (by omega) (by decide) d_MO_begin_88 (fun H locs h => ?_)
    refine lv_aload_n hx hb d_MO_begin_89 rfl (lv_at hl 0 rfl) ?_
    refine mo_get X rfl h 20 (by decide) rfl gf_MO_62 rfl d_MO_begin_90 ?_
    refine lv_iload_n hx hb d_MO_begin_93 rfl (lv_at hl 1 rfl) ?_
    refine lv_iload hx hb d_MO_begin_94 (lv_at hl 4 rfl) ?_
    refine mo_ast X h 17 4 rfl (by decide) (j := t) (v := v) (by omega) (by decide) d_MO_begin_96 (fun H locs h => ?_)
    refine lv_aload_n hx hb d_MO_begin_97 rfl (lv_at hl 0 rfl) ?_
    refine mo_get X rfl h 21 (by decide) rfl gf_MO_65 rfl d_MO_begin_98 ?_
    refine lv_iload_n hx hb d_MO_begin_101 rfl (lv_at hl 1 rfl) ?_
    refine lv_iconst (v := (-1)) hx hb d_MO_begin_102 (by decide) ?_
    refine mo_ast X h 18 4 rfl (by decide) (j := t) (v := (-1)) (by omega) (by decide) d_MO_begin_103 (fun H locs h => ?_)
    refine lv_aload_n hx hb d_MO_begin_104 rfl (lv_at hl 0 rfl) ?_
    refine lv_iload_n hx hb d_MO_begin_105 rfl (lv_at hl 1 rfl) ?_
    refine lk_gov (lk_runV (As := [.int (nI t)]) (C := R_MO) X h (c_MO_forgetPath l D τ ad _ t ht) ⟨gc_MO_forgetPath, gm_MO_105, gn_MO, gd_MO_forgetPath, by decide, by decide⟩ gi_MO_forgetPath gs_MO_forgetPath ⟨0, 4, _, _, _, lk_w_get (by decide), rfl⟩ rfl hl.1 (Nat.le_of_ble_eq_true rfl) d_MO_begin_106 ⟨Nat.zero_le _, Nat.zero_le _⟩) h hA (fun σ106 H locs hk9 h => ?_)
    rw [hk9] at h
    refine lv_aload_n hx hb d_MO_begin_109 rfl (lv_at hl 0 rfl) ?_
    refine lv_iload_n hx hb d_MO_begin_110 rfl (lv_at hl 1 rfl) ?_
    refine lv_aload_n hx hb d_MO_begin_111 rfl (lv_at hl 0 rfl) ?_
    refine mo_get X rfl h 11 (by decide) rfl gf_MO_108 rfl d_MO_begin_112 ?_
    refine lk_top (lk_st M 24 2 0 24 0) (rfl) ?_
    refine lk_gov (lk_runV (As := [.int (nI t), .int (lk_st M 24 2 0 24 0)]) (C := R_MO) X h (c_MO_search l D τ ad _ t ht _) ⟨gc_MO_search, gm_MO_111, gn_MO, gd_MO_search, by decide, by decide⟩ gi_MO_search gs_MO_search ⟨0, 4, _, _, _, lk_w_get (by decide), rfl⟩ rfl hl.1 (Nat.le_of_ble_eq_true rfl) d_MO_begin_115 ⟨Nat.zero_le _, Nat.zero_le _⟩) h hA (fun σ115 H locs hk9 h => ?_)
    rw [hk9] at h
    refine lv_iload_n hx hb d_MO_begin_118 rfl (lv_at hl 2 rfl) ?_
    refine lv_iconst (v := 3) hx hb d_MO_begin_119 (by decide) ?_
    refine lv_icmp_ne (tgt := 128) hx hb d_MO_begin_120 (by decide) (fun h5 => ?_) (fun h5 => ?_)
    · exact lk_retv X h d_MO_begin_128 ((if_neg h5).symm)
    · refine lv_aload_n hx hb d_MO_begin_123 rfl (lv_at hl 0 rfl) ?_
      refine lv_iload_n hx hb d_MO_begin_124 rfl (lv_at hl 1 rfl) ?_
      refine lk_gov (lk_runV (As := [.int (nI t)]) (C := R_MO) X h (c_MO_beginJoin l D τ ad _ t nq rt x ht hnq ((show mm_beg0 (lk_st M 24 2 0) t o k v 24 1 = M 24 1 from rfl).trans hq0) hrt ((show mm_beg0 (lk_st M 24 2 0) t o k v 24 0 = M 24 0 from rfl).trans hr0) (fun z => let ⟨z1, z2⟩ := hx0 z; ⟨z1, (show mm_beg0 (lk_st M 24 2 0) t o k v 10 0 = M 10 0 from rfl).trans z2⟩)) ⟨gc_MO_beginJoin, gm_MO_123, gn_MO, gd_MO_beginJoin, by decide, by decide⟩ gi_MO_beginJoin gs_MO_beginJoin ⟨0, 4, _, _, _, lk_w_get (by decide), rfl⟩ rfl hl.1 (Nat.le_of_ble_eq_true rfl) d_MO_begin_125 ⟨Nat.zero_le _, Nat.zero_le _⟩) h hA (fun σ125 H locs hk9 h => ?_)
      rw [hk9] at h
      exact lk_retv X h d_MO_begin_128 ((if_pos h5).symm)
  · refine lv_iload_n hx hb d_MO_begin_23 rfl (lv_at hl 3 rfl) ?_
    refine lv_iconst (v := 0) hx hb d_MO_begin_24 (by decide) ?_
    refine lv_sipush (v := 999) hx hb d_MO_begin_25 (by decide) ?_
    refine lk_goi (lk_runS (As := [.int k, .int 0, .int 999]) X h (c_MO_within l D τ ad M k 0 999) ⟨gc_MO_within, gm_MO_101, gn_MO, gd_MO_within, by decide, by decide⟩ gt_MO_within rfl hl.1 (Nat.le_of_ble_eq_true rfl) d_MO_begin_28 ⟨Nat.zero_le _, Nat.zero_le _⟩) h hA (fun r28 σ28 H locs hk9 h => ?_)
    rw [hk9.2] at h
    rw [hk9.1, if_pos (h3.resolve_left h4)]
    refine lv_if_ne (tgt := 38) hx hb d_MO_begin_31 (by decide) (fun _ => ?_) (fun z => absurd z (by decide))
    refine lv_iconst (v := 0) hx hb d_MO_begin_38 (by decide) ?_
    refine lv_iconst (v := 1) hx hb d_MO_begin_39 (by decide) ?_
    refine lk_goi (lk_runV (As := [.int 0, .int 1]) (C := R_MO) X h (c_MO_fails l D τ ad _ 0 1 (by decide)) ⟨gc_MO_fails, gm_MO_119, gn_MO, gd_MO_fails, by decide, by decide⟩ gi_MO_fails gs_MO_fails ⟨0, 4, _, _, _, lk_w_get (by decide), rfl⟩ rfl hl.1 (Nat.le_of_ble_eq_true rfl) d_MO_begin_40 ⟨Nat.zero_le _, Nat.zero_le _⟩) h hA (fun r40 σ40 H locs hk9 h => ?_)
    rw [hk9.2, if_pos rfl] at h
    rw [hk9.1]
    refine lv_if_ne (tgt := 60) hx hb d_MO_begin_43 (by decide) (fun z => absurd z (by decide)) (fun _ => ?_)
    refine lv_aload_n hx hb d_MO_begin_46 rfl (lv_at hl 0 rfl) ?_
    refine lv_aload_n hx hb d_MO_begin_47 rfl (lv_at hl 0 rfl) ?_
    refine mo_get X rfl h 14 (by decide) rfl gf_MO_43 rfl d_MO_begin_48 ?_
    refine lv_iload_n hx hb d_MO_begin_51 rfl (lv_at hl 1 rfl) ?_
    refine mo_zald X h 11 (by decide) (j := t) (by omega) d_MO_begin_52 ?_
    refine lk_top 0 ((lk_st_f (by decide)).trans hbu) ?_
    refine lv_iconst (v := 2) hx hb d_MO_begin_53 (by decide) ?_
    refine lk_goi (lk_runV (As := [.int 0, .int 2]) (C := R_MO) X h (c_MO_fails l D τ ad _ 0 2 (by decide)) ⟨gc_MO_fails, gm_MO_119, gn_MO, gd_MO_fails, by decide, by decide⟩ gi_MO_fails gs_MO_fails ⟨0, 4, _, _, _, lk_w_get (by decide), rfl⟩ rfl hl.1 (Nat.le_of_ble_eq_true rfl) d_MO_begin_54 ⟨Nat.zero_le _, Nat.zero_le _⟩) h hA (fun r54 σ54 H locs hk9 h => ?_)
    rw [hk9.2, if_pos rfl] at h
    rw [hk9.1]
    rw [lk_st_st] at h
    refine lv_if_eq (tgt := 61) hx hb d_MO_begin_57 (by decide) (fun _ => ?_) (fun z => absurd z (by decide))
    refine lv_aload_n hx hb d_MO_begin_61 rfl (lv_at hl 0 rfl) ?_
    refine mo_get X rfl h 14 (by decide) rfl gf_MO_43 rfl d_MO_begin_62 ?_
    refine lv_iload_n hx hb d_MO_begin_65 rfl (lv_at hl 1 rfl) ?_
    refine lv_iconst (v := 1) hx hb d_MO_begin_66 (by decide) ?_
    refine mo_zast X h 11 (by decide) (j := t) (v := 1) (by decide) (by omega) d_MO_begin_67 (fun H locs h => ?_)
    refine lv_aload_n hx hb d_MO_begin_68 rfl (lv_at hl 0 rfl) ?_
    refine mo_get X rfl h 15 (by decide) rfl gf_MO_47 rfl d_MO_begin_69 ?_
    refine lv_iload_n hx hb d_MO_begin_72 rfl (lv_at hl 1 rfl) ?_
    refine lv_iload_n hx hb d_MO_begin_73 rfl (lv_at hl 2 rfl) ?_
    refine mo_ast X h 12 4 rfl (by decide) (j := t) (v := o) (by omega) (by decide) d_MO_begin_74 (fun H locs h => ?_)
    refine lv_aload_n hx hb d_MO_begin_75 rfl (lv_at hl 0 rfl) ?_
    refine mo_get X rfl h 18 (by decide) rfl gf_MO_56 rfl d_MO_begin_76 ?_
    refine lv_iload_n hx hb d_MO_begin_79 rfl (lv_at hl 1 rfl) ?_
    refine lv_iload_n hx hb d_MO_begin_80 rfl (lv_at hl 3 rfl) ?_
    refine mo_ast X h 15 4 rfl (by decide) (j := t) (v := k) (by omega) (by decide) d_MO_begin_81 (fun H locs h => ?_)
    refine lv_aload_n hx hb d_MO_begin_82 rfl (lv_at hl 0 rfl) ?_
    refine mo_get X rfl h 19 (by decide) rfl gf_MO_59 rfl d_MO_begin_83 ?_
    refine lv_iload_n hx hb d_MO_begin_86 rfl (lv_at hl 1 rfl) ?_
    refine lv_iconst (v := 0) hx hb d_MO_begin_87 (by decide) ?_
    refine mo_ast X h 16 4 rfl (by decide) (j := t) (v := 0) (by omega) (by decide) d_MO_begin_88 (fun H locs h => ?_)
    refine lv_aload_n hx hb d_MO_begin_89 rfl (lv_at hl 0 rfl) ?_
    refine mo_get X rfl h 20 (by decide) rfl gf_MO_62 rfl d_MO_begin_90 ?_
    refine lv_iload_n hx hb d_MO_begin_93 rfl (lv_at hl 1 rfl) ?_
    refine lv_iload hx hb d_MO_begin_94 (lv_at hl 4 rfl) ?_
    refine mo_ast X h 17 4 rfl (by decide) (j := t) (v := v) (by omega) (by decide) d_MO_begin_96 (fun H locs h => ?_)
    refine lv_aload_n hx hb d_MO_begin_97 rfl (lv_at hl 0 rfl) ?_
    refine mo_get X rfl h 21 (by decide) rfl gf_MO_65 rfl d_MO_begin_98 ?_
    refine lv_iload_n hx hb d_MO_begin_101 rfl (lv_at hl 1 rfl) ?_
    refine lv_iconst (v := (-1)) hx hb d_MO_begin_102 (by decide) ?_
    refine mo_ast X h 18 4 rfl (by decide) (j := t) (v := (-1)) (by omega) (by decide) d_MO_begin_103 (fun H locs h => ?_)
    refine lv_aload_n hx hb d_MO_begin_104 rfl (lv_at hl 0 rfl) ?_
    refine lv_iload_n hx hb d_MO_begin_105 rfl (lv_at hl 1 rfl) ?_
    refine lk_gov (lk_runV (As := [.int (nI t)]) (C := R_MO) X h (c_MO_forgetPath l D τ ad _ t ht) ⟨gc_MO_forgetPath, gm_MO_105, gn_MO, gd_MO_forgetPath, by decide, by decide⟩ gi_MO_forgetPath gs_MO_forgetPath ⟨0, 4, _, _, _, lk_w_get (by decide), rfl⟩ rfl hl.1 (Nat.le_of_ble_eq_true rfl) d_MO_begin_106 ⟨Nat.zero_le _, Nat.zero_le _⟩) h hA (fun σ106 H locs hk9 h => ?_)
    rw [hk9] at h
    refine lv_aload_n hx hb d_MO_begin_109 rfl (lv_at hl 0 rfl) ?_
    refine lv_iload_n hx hb d_MO_begin_110 rfl (lv_at hl 1 rfl) ?_
    refine lv_aload_n hx hb d_MO_begin_111 rfl (lv_at hl 0 rfl) ?_
    refine mo_get X rfl h 11 (by decide) rfl gf_MO_108 rfl d_MO_begin_112 ?_
    refine lk_top (lk_st M 24 2 0 24 0) (rfl) ?_
    refine lk_gov (lk_runV (As := [.int (nI t), .int (lk_st M 24 2 0 24 0)]) (C := R_MO) X h (c_MO_search l D τ ad _ t ht _) ⟨gc_MO_search, gm_MO_111, gn_MO, gd_MO_search, by decide, by decide⟩ gi_MO_search gs_MO_search ⟨0, 4, _, _, _, lk_w_get (by decide), rfl⟩ rfl hl.1 (Nat.le_of_ble_eq_true rfl) d_MO_begin_115 ⟨Nat.zero_le _, Nat.zero_le _⟩) h hA (fun σ115 H locs hk9 h => ?_)
    rw [hk9] at h
    refine lv_iload_n hx hb d_MO_begin_118 rfl (lv_at hl 2 rfl) ?_
    refine lv_iconst (v := 3) hx hb d_MO_begin_119 (by decide) ?_
    refine lv_icmp_ne (tgt := 128) hx hb d_MO_begin_120 (by decide) (fun h5 => ?_) (fun h5 => ?_)
    · exact lk_retv X h d_MO_begin_128 ((if_neg h5).symm)
    · refine lv_aload_n hx hb d_MO_begin_123 rfl (lv_at hl 0 rfl) ?_
      refine lv_iload_n hx hb d_MO_begin_124 rfl (lv_at hl 1 rfl) ?_
      refine lk_gov (lk_runV (As := [.int (nI t)]) (C := R_MO) X h (c_MO_beginJoin l D τ ad _ t nq rt x ht hnq ((show mm_beg0 (lk_st M 24 2 0) t o k v 24 1 = M 24 1 from rfl).trans hq0) hrt ((show mm_beg0 (lk_st M 24 2 0) t o k v 24 0 = M 24 0 from rfl).trans hr0) (fun z => let ⟨z1, z2⟩ := hx0 z; ⟨z1, (show mm_beg0 (lk_st M 24 2 0) t o k v 10 0 = M 10 0 from rfl).trans z2⟩)) ⟨gc_MO_beginJoin, gm_MO_123, gn_MO, gd_MO_beginJoin, by decide, by decide⟩ gi_MO_beginJoin gs_MO_beginJoin ⟨0, 4, _, _, _, lk_w_get (by decide), rfl⟩ rfl hl.1 (Nat.le_of_ble_eq_true rfl) d_MO_begin_125 ⟨Nat.zero_le _, Nat.zero_le _⟩) h hA (fun σ125 H locs hk9 h => ?_)
      rw [hk9] at h
      exact lk_retv X h d_MO_begin_128 ((if_pos h5).symm)
def lk_look (M : lk_M) (t w : Nat) : Int32 := if 4 < w then M 22 (4 * t + w - 5) else if w = 0 then (if M 11 t = 0 then 1 else 0) else if M 11 t = 0 then -1 else if w = 1 then M 13 t else if w = 2 then M 14 t else if w = 3 then M 15 t else M 16 t
set_option maxRecDepth 20000 in
theorem c_MO_look_bad (l : Launch) (D : va_G) (τ : Nat → ClassId) (ad : Nat → Nat) (M : lk_M) (x y : Int32) (hbad : ¬ ((0 ≤ x ∧ x ≤ 3) ∧ (0 ≤ y ∧ y ≤ 8))) : lk_Ci l D τ 25 ad (lk_me τ ad) y_MO_look b_MO_look 3 (.int) 2 43 [.ref (ad 0), .int x, .int y] M (fun r M1 => r = 0 ∧ M1 = lk_st M 24 2 1) := by
  refine lk_openi (by decide +kernel) (Nat.le_of_ble_eq_true rfl) ?_
  intro pg en s m args below meth cd ls A X h hA hl
  obtain ⟨hx, hb, -⟩ := id X
  have hl : lv_has ls 3 [(0, .ref (ad 0)), (1, .int x), (2, .int y)] := hl
  refine lv_aload_n hx hb d_MO_look_0 rfl (lv_at hl 0 rfl) ?_
  refine lv_aload_n hx hb d_MO_look_1 rfl (lv_at hl 0 rfl) ?_
  refine lv_iload_n hx hb d_MO_look_2 rfl (lv_at hl 1 rfl) ?_
  by_cases h1 : 0 ≤ x ∧ x ≤ 3
  · refine lk_goi (lk_runV (As := [.int x]) (C := R_MO) X h (c_MO_isTask l D τ ad M x) ⟨gc_MO_isTask, gm_MO_115, gn_MO, gd_MO_isTask, by decide, by decide⟩ gi_MO_isTask gs_MO_isTask ⟨0, 4, _, _, _, lk_w_get (by decide), rfl⟩ rfl hl.1 (Nat.le_of_ble_eq_true rfl) d_MO_look_3 ⟨Nat.zero_le _, Nat.zero_le _⟩) h hA (fun r3 σ3 H locs hk9 h => ?_)
    rw [hk9.2] at h
    rw [hk9.1, if_pos h1]
    refine lv_if_eq (tgt := 19) hx hb d_MO_look_6 (by decide) (fun z => absurd z (by decide)) (fun _ => ?_)
    refine lv_iload_n hx hb d_MO_look_9 rfl (lv_at hl 2 rfl) ?_
    refine lv_iconst (v := 0) hx hb d_MO_look_10 (by decide) ?_
    refine lv_bipush (v := 8) hx hb d_MO_look_11 (by decide) ?_
    refine lk_goi (lk_runS (As := [.int y, .int 0, .int 8]) X h (c_MO_within l D τ ad M y 0 8) ⟨gc_MO_within, gm_MO_101, gn_MO, gd_MO_within, by decide, by decide⟩ gt_MO_within rfl hl.1 (Nat.le_of_ble_eq_true rfl) d_MO_look_13 ⟨Nat.zero_le _, Nat.zero_le _⟩) h hA (fun r13 σ13 H locs hk9 h => ?_)
    rw [hk9.2] at h
    rw [hk9.1, if_neg (fun z => hbad ⟨h1, z⟩)]
    refine lv_if_ne (tgt := 23) hx hb d_MO_look_16 (by decide) (fun z => absurd z (by decide)) (fun _ => ?_)
    refine lv_iconst (v := 1) hx hb d_MO_look_19 (by decide) ?_
    refine lv_goto (tgt := 24) hx hb d_MO_look_20 (by decide) ?_
    refine lv_iconst (v := 1) hx hb d_MO_look_24 (by decide) ?_
    refine lk_goi (lk_runV (As := [.int 1, .int 1]) (C := R_MO) X h (c_MO_fails l D τ ad _ 1 1 (by decide)) ⟨gc_MO_fails, gm_MO_119, gn_MO, gd_MO_fails, by decide, by decide⟩ gi_MO_fails gs_MO_fails ⟨0, 4, _, _, _, lk_w_get (by decide), rfl⟩ rfl hl.1 (Nat.le_of_ble_eq_true rfl) d_MO_look_25 ⟨Nat.zero_le _, Nat.zero_le _⟩) h hA (fun r25 σ25 H locs hk9 h => ?_)
    rw [hk9.2, if_neg (by decide)] at h
    rw [hk9.1]
    refine lv_if_eq (tgt := 33) hx hb d_MO_look_28 (by decide) (fun z => absurd z (by decide)) (fun _ => ?_)
    refine lv_iconst (v := 0) hx hb d_MO_look_31 (by decide) ?_
    exact lk_reti X h d_MO_look_32 (⟨rfl, rfl⟩)
  · refine lk_goi (lk_runV (As := [.int x]) (C := R_MO) X h (c_MO_isTask l D τ ad M x) ⟨gc_MO_isTask, gm_MO_115, gn_MO, gd_MO_isTask, by decide, by decide⟩ gi_MO_isTask gs_MO_isTask ⟨0, 4, _, _, _, lk_w_get (by decide), rfl⟩ rfl hl.1 (Nat.le_of_ble_eq_true rfl) d_MO_look_3 ⟨Nat.zero_le _, Nat.zero_le _⟩) h hA (fun r3 σ3 H locs hk9 h => ?_)
    rw [hk9.2] at h
    rw [hk9.1, if_neg h1]
    refine lv_if_eq (tgt := 19) hx hb d_MO_look_6 (by decide) (fun _ => ?_) (fun z => absurd z (by decide))
    refine lv_iconst (v := 1) hx hb d_MO_look_19 (by decide) ?_
    refine lv_goto (tgt := 24) hx hb d_MO_look_20 (by decide) ?_
    refine lv_iconst (v := 1) hx hb d_MO_look_24 (by decide) ?_
    refine lk_goi (lk_runV (As := [.int 1, .int 1]) (C := R_MO) X h (c_MO_fails l D τ ad _ 1 1 (by decide)) ⟨gc_MO_fails, gm_MO_119, gn_MO, gd_MO_fails, by decide, by decide⟩ gi_MO_fails gs_MO_fails ⟨0, 4, _, _, _, lk_w_get (by decide), rfl⟩ rfl hl.1 (Nat.le_of_ble_eq_true rfl) d_MO_look_25 ⟨Nat.zero_le _, Nat.zero_le _⟩) h hA (fun r25 σ25 H locs hk9 h => ?_)
    rw [hk9.2, if_neg (by decide)] at h
    rw [hk9.1]
    refine lv_if_eq (tgt := 33) hx hb d_MO_look_28 (by decide) (fun z => absurd z (by decide)) (fun _ => ?_)
    refine lv_iconst (v := 0) hx hb d_MO_look_31 (by decide) ?_
    exact lk_reti X h d_MO_look_32 (⟨rfl, rfl⟩)
set_option maxRecDepth 20000 in
theorem c_MO_look (l : Launch) (D : va_G) (τ : Nat → ClassId) (ad : Nat → Nat) (M : lk_M) (t w : Nat) (ht : t < 4) (hw : w ≤ 8) (hbu : M 11 t = 0 ∨ M 11 t = 1) : lk_Ci l D τ 25 ad (lk_me τ ad) y_MO_look b_MO_look 3 (.int) 2 43 [.ref (ad 0), .int (nI t), .int (nI w)] M (fun r M1 => r = lk_look M t w ∧ M1 = lk_st M 24 2 0) := by
  refine lk_openi (by decide +kernel) (Nat.le_of_ble_eq_true rfl) ?_
  intro pg en s m args below meth cd ls A X h hA hl
  obtain ⟨hx, hb, -⟩ := id X
  have hl : lv_has ls 3 [(0, .ref (ad 0)), (1, .int (nI t)), (2, .int (nI w))] := hl
  have h8 : 0 ≤ nI w ∧ nI w ≤ 8 := ⟨nI_pos' (by omega), nI_le (b := 8) hw (by decide)⟩
  refine lv_aload_n hx hb d_MO_look_0 rfl (lv_at hl 0 rfl) ?_
  refine lv_aload_n hx hb d_MO_look_1 rfl (lv_at hl 0 rfl) ?_
  refine lv_iload_n hx hb d_MO_look_2 rfl (lv_at hl 1 rfl) ?_
  refine lk_goi (lk_runV (As := [.int (nI t)]) (C := R_MO) X h (c_MO_isTask l D τ ad M (nI t)) ⟨gc_MO_isTask, gm_MO_115, gn_MO, gd_MO_isTask, by decide, by decide⟩ gi_MO_isTask gs_MO_isTask ⟨0, 4, _, _, _, lk_w_get (by decide), rfl⟩ rfl hl.1 (Nat.le_of_ble_eq_true rfl) d_MO_look_3 ⟨Nat.zero_le _, Nat.zero_le _⟩) h hA (fun r3 σ3 H locs hk9 h => ?_)
  rw [hk9.2] at h
  rw [hk9.1, if_pos (lk_in4' ht)]
  refine lv_if_eq (tgt := 19) hx hb d_MO_look_6 (by decide) (fun z => absurd z (by decide)) (fun _ => ?_)
  refine lv_iload_n hx hb d_MO_look_9 rfl (lv_at hl 2 rfl) ?_
  refine lv_iconst (v := 0) hx hb d_MO_look_10 (by decide) ?_
  refine lv_bipush (v := 8) hx hb d_MO_look_11 (by decide) ?_
  refine lk_goi (lk_runS (As := [.int (nI w), .int 0, .int 8]) X h (c_MO_within l D τ ad M (nI w) 0 8) ⟨gc_MO_within, gm_MO_101, gn_MO, gd_MO_within, by decide, by decide⟩ gt_MO_within rfl hl.1 (Nat.le_of_ble_eq_true rfl) d_MO_look_13 ⟨Nat.zero_le _, Nat.zero_le _⟩) h hA (fun r13 σ13 H locs hk9 h => ?_)
  rw [hk9.2] at h
  rw [hk9.1, if_pos h8]
  refine lv_if_ne (tgt := 23) hx hb d_MO_look_16 (by decide) (fun _ => ?_) (fun z => absurd z (by decide))
  refine lv_iconst (v := 0) hx hb d_MO_look_23 (by decide) ?_
  refine lv_iconst (v := 1) hx hb d_MO_look_24 (by decide) ?_
  refine lk_goi (lk_runV (As := [.int 0, .int 1]) (C := R_MO) X h (c_MO_fails l D τ ad _ 0 1 (by decide)) ⟨gc_MO_fails, gm_MO_119, gn_MO, gd_MO_fails, by decide, by decide⟩ gi_MO_fails gs_MO_fails ⟨0, 4, _, _, _, lk_w_get (by decide), rfl⟩ rfl hl.1 (Nat.le_of_ble_eq_true rfl) d_MO_look_25 ⟨Nat.zero_le _, Nat.zero_le _⟩) h hA (fun r25 σ25 H locs hk9 h => ?_)
  rw [hk9.2, if_pos rfl] at h
  rw [hk9.1]
  refine lv_if_eq (tgt := 33) hx hb d_MO_look_28 (by decide) (fun _ => ?_) (fun z => absurd z (by decide))
  refine lv_iload_n hx hb d_MO_look_33 rfl (lv_at hl 2 rfl) ?_
  refine lv_iconst (v := nI 4) hx hb d_MO_look_34 (by decide) ?_
  refine lk_cN_le (tgt := 51) hx hb (by omega) (by omega) d_MO_look_35 (by decide) (fun h35 => ?_) (fun h35 => ?_)
  · refine lv_iload_n hx hb d_MO_look_51 rfl (lv_at hl 2 rfl) ?_
    refine lv_if_ne (tgt := 70) hx hb d_MO_look_52 (by decide) (fun h52 => ?_) (fun h52 => ?_)
    · have hw0 : w ≠ 0 := fun z => h52 (by rw [z]; rfl)
      refine lv_aload_n hx hb d_MO_look_70 rfl (lv_at hl 0 rfl) ?_
      refine mo_get X rfl h 14 (by decide) rfl gf_MO_43 rfl d_MO_look_71 ?_
      refine lv_iload_n hx hb d_MO_look_74 rfl (lv_at hl 1 rfl) ?_
      refine mo_zald X h 11 (by decide) (j := t) (by omega) d_MO_look_75 ?_
      refine lk_top (M 11 t) (lk_st_f (by decide)) ?_
      refine lv_if_ne (tgt := 81) hx hb d_MO_look_76 (by decide) (fun h76 => ?_) (fun h76 => ?_)
      · refine lv_iload_n hx hb d_MO_look_81 rfl (lv_at hl 2 rfl) ?_
        refine lv_iconst (v := nI 1) hx hb d_MO_look_82 (by decide) ?_
        refine lk_cN_ne (tgt := 95) hx hb (by omega) (by omega) d_MO_look_83 (by decide) (fun h83 => ?_) (fun h83 => ?_)
        · refine lv_iload_n hx hb d_MO_look_95 rfl (lv_at hl 2 rfl) ?_
          refine lv_iconst (v := nI 2) hx hb d_MO_look_96 (by decide) ?_
          refine lk_cN_ne (tgt := 109) hx hb (by omega) (by omega) d_MO_look_97 (by decide) (fun h97 => ?_) (fun h97 => ?_)
          · refine lv_iload_n hx hb d_MO_look_109 rfl (lv_at hl 2 rfl) ?_
            refine lv_iconst (v := nI 3) hx hb d_MO_look_110 (by decide) ?_
            refine lk_cN_ne (tgt := 123) hx hb (by omega) (by omega) d_MO_look_111 (by decide) (fun h111 => ?_) (fun h111 => ?_)
            · refine lv_aload_n hx hb d_MO_look_123 rfl (lv_at hl 0 rfl) ?_
              refine mo_get X rfl h 19 (by decide) rfl gf_MO_59 rfl d_MO_look_124 ?_
              refine lv_iload_n hx hb d_MO_look_127 rfl (lv_at hl 1 rfl) ?_
              refine mo_ald X h 16 4 rfl (by decide) (j := t) (by omega) (by decide) d_MO_look_128 ?_
              refine lk_top (M 16 t) (lk_st_f (by decide)) ?_
              exact lk_reti X h d_MO_look_129 (by rw [lk_look, if_neg (show ¬ 4 < w by omega), if_neg hw0, if_neg h76, if_neg h83, if_neg h97, if_neg h111]; exact ⟨rfl, rfl⟩)
            · refine lv_aload_n hx hb d_MO_look_114 rfl (lv_at hl 0 rfl) ?_
              refine mo_get X rfl h 18 (by decide) rfl gf_MO_56 rfl d_MO_look_115 ?_
              refine lv_iload_n hx hb d_MO_look_118 rfl (lv_at hl 1 rfl) ?_
              refine mo_ald X h 15 4 rfl (by decide) (j := t) (by omega) (by decide) d_MO_look_119 ?_
              refine lk_top (M 15 t) (lk_st_f (by decide)) ?_
              refine lv_goto (tgt := 129) hx hb d_MO_look_120 (by decide) ?_
              exact lk_reti X h d_MO_look_129 (by rw [lk_look, if_neg (show ¬ 4 < w by omega), if_neg hw0, if_neg h76, if_neg h83, if_neg h97, if_pos h111]; exact ⟨rfl, rfl⟩)
          · refine lv_aload_n hx hb d_MO_look_100 rfl (lv_at hl 0 rfl) ?_
            refine mo_get X rfl h 17 (by decide) rfl gf_MO_53 rfl d_MO_look_101 ?_
            refine lv_iload_n hx hb d_MO_look_104 rfl (lv_at hl 1 rfl) ?_
            refine mo_ald X h 14 4 rfl (by decide) (j := t) (by omega) (by decide) d_MO_look_105 ?_
            refine lk_top (M 14 t) (lk_st_f (by decide)) ?_
            refine lv_goto (tgt := 129) hx hb d_MO_look_106 (by decide) ?_
            exact lk_reti X h d_MO_look_129 (by rw [lk_look, if_neg (show ¬ 4 < w by omega), if_neg hw0, if_neg h76, if_neg h83, if_pos h97]; exact ⟨rfl, rfl⟩)
        · refine lv_aload_n hx hb d_MO_look_86 rfl (lv_at hl 0 rfl) ?_
          refine mo_get X rfl h 16 (by decide) rfl gf_MO_50 rfl d_MO_look_87 ?_
          refine lv_iload_n hx hb d_MO_look_90 rfl (lv_at hl 1 rfl) ?_
          refine mo_ald X h 13 4 rfl (by decide) (j := t) (by omega) (by decide) d_MO_look_91 ?_
          refine lk_top (M 13 t) (lk_st_f (by decide)) ?_
          refine lv_goto (tgt := 129) hx hb d_MO_look_92 (by decide) ?_
          exact lk_reti X h d_MO_look_129 (by rw [lk_look, if_neg (show ¬ 4 < w by omega), if_neg hw0, if_neg h76, if_pos h83]; exact ⟨rfl, rfl⟩)
      · refine lv_iconst (v := (-1)) hx hb d_MO_look_79 (by decide) ?_
        exact lk_reti X h d_MO_look_80 (by rw [lk_look, if_neg (show ¬ 4 < w by omega), if_neg hw0, if_pos h76]; exact ⟨rfl, rfl⟩)
    · have hw0 : w = 0 := (nI_eq (b := 0) (by omega) (by omega)).mp h52
      refine lv_aload_n hx hb d_MO_look_55 rfl (lv_at hl 0 rfl) ?_
      refine mo_get X rfl h 14 (by decide) rfl gf_MO_43 rfl d_MO_look_56 ?_
      refine lv_iload_n hx hb d_MO_look_59 rfl (lv_at hl 1 rfl) ?_
      refine mo_zald X h 11 (by decide) (j := t) (by omega) d_MO_look_60 ?_
      refine lk_top (M 11 t) (lk_st_f (by decide)) ?_
      refine lv_if_eq (tgt := 68) hx hb d_MO_look_61 (by decide) (fun h61 => ?_) (fun h61 => ?_)
      · refine lv_iconst (v := 1) hx hb d_MO_look_68 (by decide) ?_
        exact lk_reti X h d_MO_look_69 (by rw [lk_look, if_neg (show ¬ 4 < w by omega), if_pos hw0, if_pos h61]; exact ⟨rfl, rfl⟩)
      · refine lv_iconst (v := 0) hx hb d_MO_look_64 (by decide) ?_
        refine lv_goto (tgt := 69) hx hb d_MO_look_65 (by decide) ?_
        exact lk_reti X h d_MO_look_69 (by rw [lk_look, if_neg (show ¬ 4 < w by omega), if_pos hw0, if_neg h61]; exact ⟨rfl, rfl⟩)
  · refine lv_aload_n hx hb d_MO_look_38 rfl (lv_at hl 0 rfl) ?_
    refine mo_get X rfl h 25 (by decide) rfl gf_MO_77 rfl d_MO_look_39 ?_
    refine lv_iconst (v := nI 4) hx hb d_MO_look_42 (by decide) ?_
    refine lv_iload_n hx hb d_MO_look_43 rfl (lv_at hl 1 rfl) ?_
    refine lk_imulN hx hb d_MO_look_44 ?_
    refine lv_iload_n hx hb d_MO_look_45 rfl (lv_at hl 2 rfl) ?_
    refine lk_iaddN hx hb d_MO_look_46 ?_
    refine lv_iconst (v := nI 5) hx hb d_MO_look_47 (by decide) ?_
    refine lk_isubN hx hb (by omega) d_MO_look_48 ?_
    refine mo_ald X h 22 16 rfl (by decide) (j := 4 * t + w - 5) (by omega) (by decide) d_MO_look_49 ?_
    refine lk_top (M 22 (4 * t + w - 5)) (lk_st_f (by decide)) ?_
    exact lk_reti X h d_MO_look_50 (by rw [lk_look, if_pos h35]; exact ⟨rfl, rfl⟩)
def lk_page (M : lk_M) (p w : Nat) : Int32 := if w = 0 then M 0 p else if M 0 p = 1 then (if w = 1 then M 1 p else if w = 2 then M 2 p else if w = 3 then M 3 p else if w = 4 then M 4 p else if w = 5 then M 5 p else M 6 p) else -2
set_option maxRecDepth 20000 in
theorem c_MO_page_bad (l : Launch) (D : va_G) (τ : Nat → ClassId) (ad : Nat → Nat) (M : lk_M) (x y : Int32) (hbad : ¬ ((0 ≤ x ∧ x ≤ 23) ∧ (0 ≤ y ∧ y ≤ 6))) : lk_Ci l D τ 25 ad (lk_me τ ad) y_MO_page b_MO_page 3 (.int) 1 22 [.ref (ad 0), .int x, .int y] M (fun r M1 => r = 0 ∧ M1 = lk_st M 24 2 1) := by
  refine lk_openi (by decide +kernel) (Nat.le_of_ble_eq_true rfl) ?_
  intro pg en s m args below meth cd ls A X h hA hl
  obtain ⟨hx, hb, -⟩ := id X
  have hl : lv_has ls 3 [(0, .ref (ad 0)), (1, .int x), (2, .int y)] := hl
  refine lv_aload_n hx hb d_MO_page_0 rfl (lv_at hl 0 rfl) ?_
  refine lv_iload_n hx hb d_MO_page_1 rfl (lv_at hl 1 rfl) ?_
  refine lv_iconst (v := 0) hx hb d_MO_page_2 (by decide) ?_
  refine lv_bipush (v := 23) hx hb d_MO_page_3 (by decide) ?_
  by_cases h1 : 0 ≤ x ∧ x ≤ 23
  · refine lk_goi (lk_runS (As := [.int x, .int 0, .int 23]) X h (c_MO_within l D τ ad M x 0 23) ⟨gc_MO_within, gm_MO_101, gn_MO, gd_MO_within, by decide, by decide⟩ gt_MO_within rfl hl.1 (Nat.le_of_ble_eq_true rfl) d_MO_page_5 ⟨Nat.zero_le _, Nat.zero_le _⟩) h hA (fun r5 σ5 H locs hk9 h => ?_)
    rw [hk9.2] at h
    rw [hk9.1, if_pos h1]
    refine lv_if_eq (tgt := 21) hx hb d_MO_page_8 (by decide) (fun z => absurd z (by decide)) (fun _ => ?_)
    refine lv_iload_n hx hb d_MO_page_11 rfl (lv_at hl 2 rfl) ?_
    refine lv_iconst (v := 0) hx hb d_MO_page_12 (by decide) ?_
    refine lv_bipush (v := 6) hx hb d_MO_page_13 (by decide) ?_
    refine lk_goi (lk_runS (As := [.int y, .int 0, .int 6]) X h (c_MO_within l D τ ad M y 0 6) ⟨gc_MO_within, gm_MO_101, gn_MO, gd_MO_within, by decide, by decide⟩ gt_MO_within rfl hl.1 (Nat.le_of_ble_eq_true rfl) d_MO_page_15 ⟨Nat.zero_le _, Nat.zero_le _⟩) h hA (fun r15 σ15 H locs hk9 h => ?_)
    rw [hk9.2] at h
    rw [hk9.1, if_neg (fun z => hbad ⟨h1, z⟩)]
    refine lv_if_ne (tgt := 25) hx hb d_MO_page_18 (by decide) (fun z => absurd z (by decide)) (fun _ => ?_)
    refine lv_iconst (v := 1) hx hb d_MO_page_21 (by decide) ?_
    refine lv_goto (tgt := 26) hx hb d_MO_page_22 (by decide) ?_
    refine lv_iconst (v := 1) hx hb d_MO_page_26 (by decide) ?_
    refine lk_goi (lk_runV (As := [.int 1, .int 1]) (C := R_MO) X h (c_MO_fails l D τ ad _ 1 1 (by decide)) ⟨gc_MO_fails, gm_MO_119, gn_MO, gd_MO_fails, by decide, by decide⟩ gi_MO_fails gs_MO_fails ⟨0, 4, _, _, _, lk_w_get (by decide), rfl⟩ rfl hl.1 (Nat.le_of_ble_eq_true rfl) d_MO_page_27 ⟨Nat.zero_le _, Nat.zero_le _⟩) h hA (fun r27 σ27 H locs hk9 h => ?_)
    rw [hk9.2, if_neg (by decide)] at h
    rw [hk9.1]
    refine lv_if_eq (tgt := 35) hx hb d_MO_page_30 (by decide) (fun z => absurd z (by decide)) (fun _ => ?_)
    refine lv_iconst (v := 0) hx hb d_MO_page_33 (by decide) ?_
    exact lk_reti X h d_MO_page_34 (⟨rfl, rfl⟩)
  · refine lk_goi (lk_runS (As := [.int x, .int 0, .int 23]) X h (c_MO_within l D τ ad M x 0 23) ⟨gc_MO_within, gm_MO_101, gn_MO, gd_MO_within, by decide, by decide⟩ gt_MO_within rfl hl.1 (Nat.le_of_ble_eq_true rfl) d_MO_page_5 ⟨Nat.zero_le _, Nat.zero_le _⟩) h hA (fun r5 σ5 H locs hk9 h => ?_)
    rw [hk9.2] at h
    rw [hk9.1, if_neg h1]
    refine lv_if_eq (tgt := 21) hx hb d_MO_page_8 (by decide) (fun _ => ?_) (fun z => absurd z (by decide))
    refine lv_iconst (v := 1) hx hb d_MO_page_21 (by decide) ?_
    refine lv_goto (tgt := 26) hx hb d_MO_page_22 (by decide) ?_
    refine lv_iconst (v := 1) hx hb d_MO_page_26 (by decide) ?_
    refine lk_goi (lk_runV (As := [.int 1, .int 1]) (C := R_MO) X h (c_MO_fails l D τ ad _ 1 1 (by decide)) ⟨gc_MO_fails, gm_MO_119, gn_MO, gd_MO_fails, by decide, by decide⟩ gi_MO_fails gs_MO_fails ⟨0, 4, _, _, _, lk_w_get (by decide), rfl⟩ rfl hl.1 (Nat.le_of_ble_eq_true rfl) d_MO_page_27 ⟨Nat.zero_le _, Nat.zero_le _⟩) h hA (fun r27 σ27 H locs hk9 h => ?_)
    rw [hk9.2, if_neg (by decide)] at h
    rw [hk9.1]
    refine lv_if_eq (tgt := 35) hx hb d_MO_page_30 (by decide) (fun z => absurd z (by decide)) (fun _ => ?_)
    refine lv_iconst (v := 0) hx hb d_MO_page_33 (by decide) ?_
    exact lk_reti X h d_MO_page_34 (⟨rfl, rfl⟩)
set_option maxRecDepth 20000 in
theorem c_MO_page (l : Launch) (D : va_G) (τ : Nat → ClassId) (ad : Nat → Nat) (M : lk_M) (p w : Nat) (hp : p < 24) (hw : w ≤ 6) : lk_Ci l D τ 25 ad (lk_me τ ad) y_MO_page b_MO_page 3 (.int) 1 22 [.ref (ad 0), .int (nI p), .int (nI w)] M (fun r M1 => r = lk_page M p w ∧ M1 = lk_st M 24 2 0) := by
  refine lk_openi (by decide +kernel) (Nat.le_of_ble_eq_true rfl) ?_
  intro pg en s m args below meth cd ls A X h hA hl
  obtain ⟨hx, hb, -⟩ := id X
  have hl : lv_has ls 3 [(0, .ref (ad 0)), (1, .int (nI p)), (2, .int (nI w))] := hl
  have h8 : 0 ≤ nI w ∧ nI w ≤ 6 := ⟨nI_pos' (by omega), nI_le (b := 6) hw (by decide)⟩
  refine lv_aload_n hx hb d_MO_page_0 rfl (lv_at hl 0 rfl) ?_
  refine lv_iload_n hx hb d_MO_page_1 rfl (lv_at hl 1 rfl) ?_
  refine lv_iconst (v := 0) hx hb d_MO_page_2 (by decide) ?_
  refine lv_bipush (v := 23) hx hb d_MO_page_3 (by decide) ?_
  refine lk_goi (lk_runS (As := [.int (nI p), .int 0, .int 23]) X h (c_MO_within l D τ ad M (nI p) 0 23) ⟨gc_MO_within, gm_MO_101, gn_MO, gd_MO_within, by decide, by decide⟩ gt_MO_within rfl hl.1 (Nat.le_of_ble_eq_true rfl) d_MO_page_5 ⟨Nat.zero_le _, Nat.zero_le _⟩) h hA (fun r5 σ5 H locs hk9 h => ?_)
  rw [hk9.2] at h
  rw [hk9.1, if_pos (lk_in24' hp)]
  refine lv_if_eq (tgt := 21) hx hb d_MO_page_8 (by decide) (fun z => absurd z (by decide)) (fun _ => ?_)
  refine lv_iload_n hx hb d_MO_page_11 rfl (lv_at hl 2 rfl) ?_
  refine lv_iconst (v := 0) hx hb d_MO_page_12 (by decide) ?_
  refine lv_bipush (v := 6) hx hb d_MO_page_13 (by decide) ?_
  refine lk_goi (lk_runS (As := [.int (nI w), .int 0, .int 6]) X h (c_MO_within l D τ ad M (nI w) 0 6) ⟨gc_MO_within, gm_MO_101, gn_MO, gd_MO_within, by decide, by decide⟩ gt_MO_within rfl hl.1 (Nat.le_of_ble_eq_true rfl) d_MO_page_15 ⟨Nat.zero_le _, Nat.zero_le _⟩) h hA (fun r15 σ15 H locs hk9 h => ?_)
  rw [hk9.2] at h
  rw [hk9.1, if_pos h8]
  refine lv_if_ne (tgt := 25) hx hb d_MO_page_18 (by decide) (fun _ => ?_) (fun z => absurd z (by decide))
  refine lv_iconst (v := 0) hx hb d_MO_page_25 (by decide) ?_
  refine lv_iconst (v := 1) hx hb d_MO_page_26 (by decide) ?_
  refine lk_goi (lk_runV (As := [.int 0, .int 1]) (C := R_MO) X h (c_MO_fails l D τ ad _ 0 1 (by decide)) ⟨gc_MO_fails, gm_MO_119, gn_MO, gd_MO_fails, by decide, by decide⟩ gi_MO_fails gs_MO_fails ⟨0, 4, _, _, _, lk_w_get (by decide), rfl⟩ rfl hl.1 (Nat.le_of_ble_eq_true rfl) d_MO_page_27 ⟨Nat.zero_le _, Nat.zero_le _⟩) h hA (fun r27 σ27 H locs hk9 h => ?_)
  rw [hk9.2, if_pos rfl] at h
  rw [hk9.1]
  refine lv_if_eq (tgt := 35) hx hb d_MO_page_30 (by decide) (fun _ => ?_) (fun z => absurd z (by decide))
  refine lv_iload_n hx hb d_MO_page_35 rfl (lv_at hl 2 rfl) ?_
  refine lv_if_ne (tgt := 46) hx hb d_MO_page_36 (by decide) (fun h36 => ?_) (fun h36 => ?_)
  · have hw0 : w ≠ 0 := fun z => h36 (by rw [z]; rfl)
    refine lv_aload_n hx hb d_MO_page_46 rfl (lv_at hl 0 rfl) ?_
    refine mo_get X rfl h 1 (by decide) rfl gf_MO_7 rfl d_MO_page_47 ?_
    refine lv_iload_n hx hb d_MO_page_50 rfl (lv_at hl 1 rfl) ?_
    refine mo_ald X h 0 24 rfl (by decide) (j := p) (by omega) (by decide) d_MO_page_51 ?_
    refine lk_top (M 0 p) (lk_st_f (by decide)) ?_
    refine lv_iconst (v := 1) hx hb d_MO_page_52 (by decide) ?_
    refine lv_icmp_eq (tgt := 59) hx hb d_MO_page_53 (by decide) (fun h53 => ?_) (fun h53 => ?_)
    · refine lv_iload_n hx hb d_MO_page_59 rfl (lv_at hl 2 rfl) ?_
      obtain rfl | rfl | rfl | rfl | rfl | rfl : w = 1 ∨ w = 2 ∨ w = 3 ∨ w = 4 ∨ w = 5 ∨ w = 6 := by omega
      · refine lv_tableIn (tgt := 96) hx hb d_MO_page_60 (by decide) (by decide) rfl (by decide) ?_
        refine lv_aload_n hx hb d_MO_page_96 rfl (lv_at hl 0 rfl) ?_
        refine mo_get X rfl h 2 (by decide) rfl gf_MO_13 rfl d_MO_page_97 ?_
        refine lv_iload_n hx hb d_MO_page_100 rfl (lv_at hl 1 rfl) ?_
        refine mo_ald X h 1 24 rfl (by decide) (j := p) (by omega) (by decide) d_MO_page_101 ?_
        refine lk_top (M 1 p) (lk_st_f (by decide)) ?_
        exact lk_reti X h d_MO_page_102 (by rw [lk_page, if_neg hw0, if_pos h53]; exact ⟨rfl, rfl⟩)
      · refine lv_tableIn (tgt := 103) hx hb d_MO_page_60 (by decide) (by decide) rfl (by decide) ?_
        refine lv_aload_n hx hb d_MO_page_103 rfl (lv_at hl 0 rfl) ?_
        refine mo_get X rfl h 3 (by decide) rfl gf_MO_16 rfl d_MO_page_104 ?_
        refine lv_iload_n hx hb d_MO_page_107 rfl (lv_at hl 1 rfl) ?_
        refine mo_ald X h 2 24 rfl (by decide) (j := p) (by omega) (by decide) d_MO_page_108 ?_
        refine lk_top (M 2 p) (lk_st_f (by decide)) ?_
        exact lk_reti X h d_MO_page_109 (by rw [lk_page, if_neg hw0, if_pos h53]; exact ⟨rfl, rfl⟩)
      · refine lv_tableIn (tgt := 110) hx hb d_MO_page_60 (by decide) (by decide) rfl (by decide) ?_
        refine lv_aload_n hx hb d_MO_page_110 rfl (lv_at hl 0 rfl) ?_
        refine mo_get X rfl h 4 (by decide) rfl gf_MO_19 rfl d_MO_page_111 ?_
        refine lv_iload_n hx hb d_MO_page_114 rfl (lv_at hl 1 rfl) ?_
        refine mo_ald X h 3 24 rfl (by decide) (j := p) (by omega) (by decide) d_MO_page_115 ?_
        refine lk_top (M 3 p) (lk_st_f (by decide)) ?_
        exact lk_reti X h d_MO_page_116 (by rw [lk_page, if_neg hw0, if_pos h53]; exact ⟨rfl, rfl⟩)
      · refine lv_tableIn (tgt := 117) hx hb d_MO_page_60 (by decide) (by decide) rfl (by decide) ?_
        refine lv_aload_n hx hb d_MO_page_117 rfl (lv_at hl 0 rfl) ?_
        refine mo_get X rfl h 5 (by decide) rfl gf_MO_22 rfl d_MO_page_118 ?_
        refine lv_iload_n hx hb d_MO_page_121 rfl (lv_at hl 1 rfl) ?_
        refine mo_ald X h 4 24 rfl (by decide) (j := p) (by omega) (by decide) d_MO_page_122 ?_
        refine lk_top (M 4 p) (lk_st_f (by decide)) ?_
        exact lk_reti X h d_MO_page_123 (by rw [lk_page, if_neg hw0, if_pos h53]; exact ⟨rfl, rfl⟩)
      · refine lv_tableIn (tgt := 124) hx hb d_MO_page_60 (by decide) (by decide) rfl (by decide) ?_
        refine lv_aload_n hx hb d_MO_page_124 rfl (lv_at hl 0 rfl) ?_
        refine mo_get X rfl h 6 (by decide) rfl gf_MO_25 rfl d_MO_page_125 ?_
        refine lv_iload_n hx hb d_MO_page_128 rfl (lv_at hl 1 rfl) ?_
        refine mo_ald X h 5 24 rfl (by decide) (j := p) (by omega) (by decide) d_MO_page_129 ?_
        refine lk_top (M 5 p) (lk_st_f (by decide)) ?_
        exact lk_reti X h d_MO_page_130 (by rw [lk_page, if_neg hw0, if_pos h53]; exact ⟨rfl, rfl⟩)
      · refine lv_tableOut (tgt := 131) hx hb d_MO_page_60 (by decide) (by decide) ?_
        refine lv_aload_n hx hb d_MO_page_131 rfl (lv_at hl 0 rfl) ?_
        refine mo_get X rfl h 7 (by decide) rfl gf_MO_28 rfl d_MO_page_132 ?_
        refine lv_iload_n hx hb d_MO_page_135 rfl (lv_at hl 1 rfl) ?_
        refine mo_ald X h 6 24 rfl (by decide) (j := p) (by omega) (by decide) d_MO_page_136 ?_
        refine lk_top (M 6 p) (lk_st_f (by decide)) ?_
        exact lk_reti X h d_MO_page_137 (by rw [lk_page, if_neg hw0, if_pos h53]; exact ⟨rfl, rfl⟩)
    · refine lv_bipush (v := (-2)) hx hb d_MO_page_56 (by decide) ?_
      exact lk_reti X h d_MO_page_58 (by rw [lk_page, if_neg hw0, if_neg h53]; exact ⟨rfl, rfl⟩)
  · refine lv_aload_n hx hb d_MO_page_39 rfl (lv_at hl 0 rfl) ?_
    refine mo_get X rfl h 1 (by decide) rfl gf_MO_7 rfl d_MO_page_40 ?_
    refine lv_iload_n hx hb d_MO_page_43 rfl (lv_at hl 1 rfl) ?_
    refine mo_ald X h 0 24 rfl (by decide) (j := p) (by omega) (by decide) d_MO_page_44 ?_
    refine lk_top (M 0 p) (lk_st_f (by decide)) ?_
    exact lk_reti X h d_MO_page_45 (by rw [lk_page, if_pos ((nI_eq (b := 0) (by omega) (by omega)).mp h36)]; exact ⟨rfl, rfl⟩)
theorem lk_in_n {k : Int32} {n : Nat} (hn : n ≤ 5) : (0 ≤ k ∧ k ≤ nI n - 1) ↔ ∃ j : Nat, j < n ∧ k = nI j := by
  have e : (nI n - 1).toInt = (n : Int) - 1 := by
    have := pk_sub_toInt (a := n) (b := 1) (by omega) (by omega)
    exact this
  constructor
  · intro ⟨h1, h2⟩
    rw [Int32.le_iff_toInt_le, e] at h2
    obtain ⟨j, hj, rfl⟩ := nI_of (x := k) (Int32.not_lt.mpr h1)
    rw [nI_toInt hj] at h2
    exact ⟨j, by omega, rfl⟩
  · intro ⟨j, hj, hk⟩
    subst hk
    refine ⟨nI_pos' (by omega), ?_⟩
    rw [Int32.le_iff_toInt_le, e, nI_toInt (by omega)]
    omega
set_option maxRecDepth 20000 in
theorem c_MO_entry_bad (l : Launch) (D : va_G) (τ : Nat → ClassId) (ad : Nat → Nat) (M : lk_M) (x k z : Int32) (hbad : ¬ lk_isn M x) : lk_Ci l D τ 25 ad (lk_me τ ad) y_MO_entry b_MO_entry 4 (.int) 2 43 [.ref (ad 0), .int x, .int k, .int z] M (fun r M1 => r = 0 ∧ M1 = lk_st M 24 2 1) := by
  refine lk_openi (by decide +kernel) (Nat.le_of_ble_eq_true rfl) ?_
  intro pg en s m args below meth cd ls A X h hA hl
  obtain ⟨hx, hb, -⟩ := id X
  have hl : lv_has ls 4 [(0, .ref (ad 0)), (1, .int x), (2, .int k), (3, .int z)] := hl
  refine lv_aload_n hx hb d_MO_entry_0 rfl (lv_at hl 0 rfl) ?_
  refine lv_aload_n hx hb d_MO_entry_1 rfl (lv_at hl 0 rfl) ?_
  refine lv_iload_n hx hb d_MO_entry_2 rfl (lv_at hl 1 rfl) ?_
  refine lk_goi (lk_runV (As := [.int x]) (C := R_MO) X h (c_MO_isNode l D τ ad M x) ⟨gc_MO_isNode, gm_MO_204, gn_MO, gd_MO_isNode, by decide, by decide⟩ gi_MO_isNode gs_MO_isNode ⟨0, 4, _, _, _, lk_w_get (by decide), rfl⟩ rfl hl.1 (Nat.le_of_ble_eq_true rfl) d_MO_entry_3 ⟨Nat.zero_le _, Nat.zero_le _⟩) h hA (fun r3 σ3 H locs hk9 h => ?_)
  obtain ⟨hk9, hm9⟩ := hk9
  rw [hm9] at h
  rw [show r3 = 0 from hk9.elim (fun z => absurd z.2 hbad) (fun z => z.1)]
  refine lv_if_eq (tgt := 37) hx hb d_MO_entry_6 (by decide) (fun _ => ?_) (fun z => absurd z (by decide))
  refine lv_iconst (v := 1) hx hb d_MO_entry_37 (by decide) ?_
  refine lv_goto (tgt := 42) hx hb d_MO_entry_38 (by decide) ?_
  refine lv_iconst (v := 1) hx hb d_MO_entry_42 (by decide) ?_
  refine lk_goi (lk_runV (As := [.int 1, .int 1]) (C := R_MO) X h (c_MO_fails l D τ ad _ 1 1 (by decide)) ⟨gc_MO_fails, gm_MO_119, gn_MO, gd_MO_fails, by decide, by decide⟩ gi_MO_fails gs_MO_fails ⟨0, 4, _, _, _, lk_w_get (by decide), rfl⟩ rfl hl.1 (Nat.le_of_ble_eq_true rfl) d_MO_entry_43 ⟨Nat.zero_le _, Nat.zero_le _⟩) h hA (fun r43 σ43 H locs hk9 h => ?_)
  rw [hk9.2, if_neg (by decide)] at h
  rw [hk9.1]
  refine lv_if_eq (tgt := 51) hx hb d_MO_entry_46 (by decide) (fun z => absurd z (by decide)) (fun _ => ?_)
  refine lv_iconst (v := 0) hx hb d_MO_entry_49 (by decide) ?_
  exact lk_reti X h d_MO_entry_50 (⟨rfl, rfl⟩)
set_option maxRecDepth 20000 in
theorem c_MO_entry_no (l : Launch) (D : va_G) (τ : Nat → ClassId) (ad : Nat → Nat) (M : lk_M) (p n : Nat) (hp : p < 24) (hkd : M 0 p = 1) (hc : M 5 p = nI n) (hn : n ≤ 5) (k z : Int32) (hbad : ¬ ∃ j : Nat, j < n ∧ k = nI j) : lk_Ci l D τ 25 ad (lk_me τ ad) y_MO_entry b_MO_entry 4 (.int) 2 43 [.ref (ad 0), .int (nI p), .int k, .int z] M (fun r M1 => r = 0 ∧ M1 = lk_st M 24 2 1) := by
  refine lk_openi (by decide +kernel) (Nat.le_of_ble_eq_true rfl) ?_
  intro pg en s m args below meth cd ls A X h hA hl
  obtain ⟨hx, hb, -⟩ := id X
  have hl : lv_has ls 4 [(0, .ref (ad 0)), (1, .int (nI p)), (2, .int k), (3, .int z)] := hl
  refine lv_aload_n hx hb d_MO_entry_0 rfl (lv_at hl 0 rfl) ?_
  refine lv_aload_n hx hb d_MO_entry_1 rfl (lv_at hl 0 rfl) ?_
  refine lv_iload_n hx hb d_MO_entry_2 rfl (lv_at hl 1 rfl) ?_
  refine lk_goi (lk_runV (As := [.int (nI p)]) (C := R_MO) X h (c_MO_isNode l D τ ad M (nI p)) ⟨gc_MO_isNode, gm_MO_204, gn_MO, gd_MO_isNode, by decide, by decide⟩ gi_MO_isNode gs_MO_isNode ⟨0, 4, _, _, _, lk_w_get (by decide), rfl⟩ rfl hl.1 (Nat.le_of_ble_eq_true rfl) d_MO_entry_3 ⟨Nat.zero_le _, Nat.zero_le _⟩) h hA (fun r3 σ3 H locs hk9 h => ?_)
  obtain ⟨hk9, hm9⟩ := hk9
  rw [hm9] at h
  rw [show r3 = 1 from hk9.elim (fun z => z.1) (fun z => absurd (show lk_isn M (nI p) from ⟨p, hp, rfl, hkd⟩) z.2)]
  refine lv_if_eq (tgt := 37) hx hb d_MO_entry_6 (by decide) (fun z => absurd z (by decide)) (fun _ => ?_)
  refine lv_iload_n hx hb d_MO_entry_9 rfl (lv_at hl 2 rfl) ?_
  refine lv_iconst (v := 0) hx hb d_MO_entry_10 (by decide) ?_
  refine lv_aload_n hx hb d_MO_entry_11 rfl (lv_at hl 0 rfl) ?_
  refine lv_iload_n hx hb d_MO_entry_12 rfl (lv_at hl 1 rfl) ?_
  refine lk_goi (lk_runV (As := [.int (nI p)]) (C := R_MO) X h (c_MO_isNode l D τ ad M (nI p)) ⟨gc_MO_isNode, gm_MO_204, gn_MO, gd_MO_isNode, by decide, by decide⟩ gi_MO_isNode gs_MO_isNode ⟨0, 4, _, _, _, lk_w_get (by decide), rfl⟩ rfl hl.1 (Nat.le_of_ble_eq_true rfl) d_MO_entry_13 ⟨Nat.zero_le _, Nat.zero_le _⟩) h hA (fun r13 σ13 H locs hk9 h => ?_)
  obtain ⟨hk9, hm9⟩ := hk9
  rw [hm9] at h
  rw [show r13 = 1 from hk9.elim (fun z => z.1) (fun z => absurd (show lk_isn M (nI p) from ⟨p, hp, rfl, hkd⟩) z.2)]
  refine lv_if_eq (tgt := 30) hx hb d_MO_entry_16 (by decide) (fun z => absurd z (by decide)) (fun _ => ?_)
  refine lv_aload_n hx hb d_MO_entry_19 rfl (lv_at hl 0 rfl) ?_
  refine mo_get X rfl h 6 (by decide) rfl gf_MO_25 rfl d_MO_entry_20 ?_
  refine lv_iload_n hx hb d_MO_entry_23 rfl (lv_at hl 1 rfl) ?_
  refine mo_ald X h 5 24 rfl (by decide) (j := p) (by omega) (by decide) d_MO_entry_24 ?_
  refine lk_top (nI n) (hc) ?_
  refine lv_iconst (v := 1) hx hb d_MO_entry_25 (by decide) ?_
  refine lv_isub hx hb d_MO_entry_26 ?_
  refine lv_goto (tgt := 31) hx hb d_MO_entry_27 (by decide) ?_
  refine lk_goi (lk_runS (As := [.int k, .int 0, .int ((nI n) - 1)]) X h (c_MO_within l D τ ad M k 0 (nI n - 1)) ⟨gc_MO_within, gm_MO_101, gn_MO, gd_MO_within, by decide, by decide⟩ gt_MO_within rfl hl.1 (Nat.le_of_ble_eq_true rfl) d_MO_entry_31 ⟨Nat.zero_le _, Nat.zero_le _⟩) h hA (fun r31 σ31 H locs hk9 h => ?_)
  rw [hk9.2] at h
  rw [hk9.1, if_neg (fun z => hbad ((lk_in_n hn).mp z))]
  refine lv_if_ne (tgt := 41) hx hb d_MO_entry_34 (by decide) (fun z => absurd z (by decide)) (fun _ => ?_)
  refine lv_iconst (v := 1) hx hb d_MO_entry_37 (by decide) ?_
  refine lv_goto (tgt := 42) hx hb d_MO_entry_38 (by decide) ?_
  refine lv_iconst (v := 1) hx hb d_MO_entry_42 (by decide) ?_
  refine lk_goi (lk_runV (As := [.int 1, .int 1]) (C := R_MO) X h (c_MO_fails l D τ ad _ 1 1 (by decide)) ⟨gc_MO_fails, gm_MO_119, gn_MO, gd_MO_fails, by decide, by decide⟩ gi_MO_fails gs_MO_fails ⟨0, 4, _, _, _, lk_w_get (by decide), rfl⟩ rfl hl.1 (Nat.le_of_ble_eq_true rfl) d_MO_entry_43 ⟨Nat.zero_le _, Nat.zero_le _⟩) h hA (fun r43 σ43 H locs hk9 h => ?_)
  rw [hk9.2, if_neg (by decide)] at h
  rw [hk9.1]
  refine lv_if_eq (tgt := 51) hx hb d_MO_entry_46 (by decide) (fun z => absurd z (by decide)) (fun _ => ?_)
  refine lv_iconst (v := 0) hx hb d_MO_entry_49 (by decide) ?_
  exact lk_reti X h d_MO_entry_50 (⟨rfl, rfl⟩)
set_option maxRecDepth 20000 in
theorem c_MO_entry (l : Launch) (D : va_G) (τ : Nat → ClassId) (ad : Nat → Nat) (M : lk_M) (p n j : Nat) (hp : p < 24) (hkd : M 0 p = 1) (hc : M 5 p = nI n) (hn : n ≤ 5) (hj : j < n) (z : Int32) : lk_Ci l D τ 25 ad (lk_me τ ad) y_MO_entry b_MO_entry 4 (.int) 2 43 [.ref (ad 0), .int (nI p), .int (nI j), .int z] M (fun r M1 => (r = if z = 0 then M 7 (5 * p + j) else M 8 (5 * p + j)) ∧ M1 = lk_st M 24 2 0) := by
  refine lk_openi (by decide +kernel) (Nat.le_of_ble_eq_true rfl) ?_
  intro pg en s m args below meth cd ls A X h hA hl
  obtain ⟨hx, hb, -⟩ := id X
  have hl : lv_has ls 4 [(0, .ref (ad 0)), (1, .int (nI p)), (2, .int (nI j)), (3, .int z)] := hl
  refine lv_aload_n hx hb d_MO_entry_0 rfl (lv_at hl 0 rfl) ?_
  refine lv_aload_n hx hb d_MO_entry_1 rfl (lv_at hl 0 rfl) ?_
  refine lv_iload_n hx hb d_MO_entry_2 rfl (lv_at hl 1 rfl) ?_
  refine lk_goi (lk_runV (As := [.int (nI p)]) (C := R_MO) X h (c_MO_isNode l D τ ad M (nI p)) ⟨gc_MO_isNode, gm_MO_204, gn_MO, gd_MO_isNode, by decide, by decide⟩ gi_MO_isNode gs_MO_isNode ⟨0, 4, _, _, _, lk_w_get (by decide), rfl⟩ rfl hl.1 (Nat.le_of_ble_eq_true rfl) d_MO_entry_3 ⟨Nat.zero_le _, Nat.zero_le _⟩) h hA (fun r3 σ3 H locs hk9 h => ?_)
  obtain ⟨hk9, hm9⟩ := hk9
  rw [hm9] at h
  rw [show r3 = 1 from hk9.elim (fun z => z.1) (fun z => absurd (show lk_isn M (nI p) from ⟨p, hp, rfl, hkd⟩) z.2)]
  refine lv_if_eq (tgt := 37) hx hb d_MO_entry_6 (by decide) (fun z => absurd z (by decide)) (fun _ => ?_)
  refine lv_iload_n hx hb d_MO_entry_9 rfl (lv_at hl 2 rfl) ?_
  refine lv_iconst (v := 0) hx hb d_MO_entry_10 (by decide) ?_
  refine lv_aload_n hx hb d_MO_entry_11 rfl (lv_at hl 0 rfl) ?_
  refine lv_iload_n hx hb d_MO_entry_12 rfl (lv_at hl 1 rfl) ?_
  refine lk_goi (lk_runV (As := [.int (nI p)]) (C := R_MO) X h (c_MO_isNode l D τ ad M (nI p)) ⟨gc_MO_isNode, gm_MO_204, gn_MO, gd_MO_isNode, by decide, by decide⟩ gi_MO_isNode gs_MO_isNode ⟨0, 4, _, _, _, lk_w_get (by decide), rfl⟩ rfl hl.1 (Nat.le_of_ble_eq_true rfl) d_MO_entry_13 ⟨Nat.zero_le _, Nat.zero_le _⟩) h hA (fun r13 σ13 H locs hk9 h => ?_)
  obtain ⟨hk9, hm9⟩ := hk9
  rw [hm9] at h
  rw [show r13 = 1 from hk9.elim (fun z => z.1) (fun z => absurd (show lk_isn M (nI p) from ⟨p, hp, rfl, hkd⟩) z.2)]
  refine lv_if_eq (tgt := 30) hx hb d_MO_entry_16 (by decide) (fun z => absurd z (by decide)) (fun _ => ?_)
  refine lv_aload_n hx hb d_MO_entry_19 rfl (lv_at hl 0 rfl) ?_
  refine mo_get X rfl h 6 (by decide) rfl gf_MO_25 rfl d_MO_entry_20 ?_
  refine lv_iload_n hx hb d_MO_entry_23 rfl (lv_at hl 1 rfl) ?_
  refine mo_ald X h 5 24 rfl (by decide) (j := p) (by omega) (by decide) d_MO_entry_24 ?_
  refine lk_top (nI n) (hc) ?_
  refine lv_iconst (v := 1) hx hb d_MO_entry_25 (by decide) ?_
  refine lv_isub hx hb d_MO_entry_26 ?_
  refine lv_goto (tgt := 31) hx hb d_MO_entry_27 (by decide) ?_
  refine lk_goi (lk_runS (As := [.int (nI j), .int 0, .int ((nI n) - 1)]) X h (c_MO_within l D τ ad M (nI j) 0 (nI n - 1)) ⟨gc_MO_within, gm_MO_101, gn_MO, gd_MO_within, by decide, by decide⟩ gt_MO_within rfl hl.1 (Nat.le_of_ble_eq_true rfl) d_MO_entry_31 ⟨Nat.zero_le _, Nat.zero_le _⟩) h hA (fun r31 σ31 H locs hk9 h => ?_)
  rw [hk9.2] at h
  rw [hk9.1, if_pos ((lk_in_n hn).mpr ⟨j, hj, rfl⟩)]
  refine lv_if_ne (tgt := 41) hx hb d_MO_entry_34 (by decide) (fun _ => ?_) (fun z => absurd z (by decide))
  refine lv_iconst (v := 0) hx hb d_MO_entry_41 (by decide) ?_
  refine lv_iconst (v := 1) hx hb d_MO_entry_42 (by decide) ?_
  refine lk_goi (lk_runV (As := [.int 0, .int 1]) (C := R_MO) X h (c_MO_fails l D τ ad _ 0 1 (by decide)) ⟨gc_MO_fails, gm_MO_119, gn_MO, gd_MO_fails, by decide, by decide⟩ gi_MO_fails gs_MO_fails ⟨0, 4, _, _, _, lk_w_get (by decide), rfl⟩ rfl hl.1 (Nat.le_of_ble_eq_true rfl) d_MO_entry_43 ⟨Nat.zero_le _, Nat.zero_le _⟩) h hA (fun r43 σ43 H locs hk9 h => ?_)
  rw [hk9.2, if_pos rfl] at h
  rw [hk9.1]
  refine lv_if_eq (tgt := 51) hx hb d_MO_entry_46 (by decide) (fun _ => ?_) (fun z => absurd z (by decide))
  refine lv_iload_n hx hb d_MO_entry_51 rfl (lv_at hl 3 rfl) ?_
  refine lv_if_eq (tgt := 68) hx hb d_MO_entry_52 (by decide) (fun h52 => ?_) (fun h52 => ?_)
  · refine lv_aload_n hx hb d_MO_entry_68 rfl (lv_at hl 0 rfl) ?_
    refine mo_get X rfl h 8 (by decide) rfl gf_MO_31 rfl d_MO_entry_69 ?_
    refine lv_iconst (v := nI 5) hx hb d_MO_entry_72 (by decide) ?_
    refine lv_iload_n hx hb d_MO_entry_73 rfl (lv_at hl 1 rfl) ?_
    refine lk_imulN hx hb d_MO_entry_74 ?_
    refine lv_iload_n hx hb d_MO_entry_75 rfl (lv_at hl 2 rfl) ?_
    refine lk_iaddN hx hb d_MO_entry_76 ?_
    refine mo_ald X h 7 120 rfl (by decide) (j := 5 * p + j) (by omega) (by decide) d_MO_entry_77 ?_
    refine lk_top (M 7 (5 * p + j)) (lk_st_f (by decide)) ?_
    exact lk_reti X h d_MO_entry_78 (⟨(if_pos h52).symm, rfl⟩)
  · refine lv_aload_n hx hb d_MO_entry_55 rfl (lv_at hl 0 rfl) ?_
    refine mo_get X rfl h 9 (by decide) rfl gf_MO_34 rfl d_MO_entry_56 ?_
    refine lv_iconst (v := nI 5) hx hb d_MO_entry_59 (by decide) ?_
    refine lv_iload_n hx hb d_MO_entry_60 rfl (lv_at hl 1 rfl) ?_
    refine lk_imulN hx hb d_MO_entry_61 ?_
    refine lv_iload_n hx hb d_MO_entry_62 rfl (lv_at hl 2 rfl) ?_
    refine lk_iaddN hx hb d_MO_entry_63 ?_
    refine mo_ald X h 8 120 rfl (by decide) (j := 5 * p + j) (by omega) (by decide) d_MO_entry_64 ?_
    refine lk_top (M 8 (5 * p + j)) (lk_st_f (by decide)) ?_
    refine lv_goto (tgt := 78) hx hb d_MO_entry_65 (by decide) ?_
    exact lk_reti X h d_MO_entry_78 (⟨(if_neg h52).symm, rfl⟩)
end
