def R_LT : String := "LinkTree"
def T_LT : u_T := fun k => match k with
  | 0 => ("LinkTree", "nodes", "[LLinkTree$Node;", true)
  | 1 => ("LinkTree", "nowhere", "LLinkTree$Node;", true)
  | 2 => ("LinkTree", "tasks", "[LLinkTree$Task;", true)
  | 3 => ("LinkTree", "small", "LLinkTree$SmallPages;", true)
  | _ => ("LinkTree", "rootPage", "I", false)
def ty_LT : Nat → FieldType := fun k => match k with
  | 0 => .array (.object "LinkTree$Node")
  | 1 => .object "LinkTree$Node"
  | 2 => .array (.object "LinkTree$Task")
  | 3 => .object "LinkTree$SmallPages"
  | _ => .int
theorem nm_LT : ∀ a, a < 5 → ∀ b, b < 5 → a ≠ b → (T_LT a).2.1 ≠ (T_LT b).2.1 := by decide +kernel
theorem ty_LT_ok : ∀ k, k < 5 → parseFieldDescriptor (T_LT k).2.2.1 = some (ty_LT k) := by decide +kernel
def R_ND : String := "LinkTree$Node"
def T_ND : u_T := fun k => match k with
  | 0 => ("LinkTree$Node", "number", "I", true)
  | 1 => ("LinkTree$Node", "keys", "[I", true)
  | 2 => ("LinkTree$Node", "seconds", "[I", true)
  | 3 => ("LinkTree$Node", "count", "I", false)
  | 4 => ("LinkTree$Node", "kind", "I", false)
  | 5 => ("LinkTree$Node", "level", "I", false)
  | 6 => ("LinkTree$Node", "low", "I", false)
  | 7 => ("LinkTree$Node", "high", "I", false)
  | 8 => ("LinkTree$Node", "right", "I", false)
  | 9 => ("LinkTree$Node", "locker", "I", false)
  | _ => ("LinkTree$Node", "awaited", "I", false)
def ty_ND : Nat → FieldType := fun k => match k with
  | 0 => .int
  | 1 => .array .int
  | 2 => .array .int
  | 3 => .int
  | 4 => .int
  | 5 => .int
  | 6 => .int
  | 7 => .int
  | 8 => .int
  | 9 => .int
  | _ => .int
theorem nm_ND : ∀ a, a < 11 → ∀ b, b < 11 → a ≠ b → (T_ND a).2.1 ≠ (T_ND b).2.1 := by decide +kernel
theorem ty_ND_ok : ∀ k, k < 11 → parseFieldDescriptor (T_ND k).2.2.1 = some (ty_ND k) := by decide +kernel
def R_TA : String := "LinkTree$Task"
def T_TA : u_T := fun k => match k with
  | 0 => ("LinkTree$Task", "number", "I", true)
  | 1 => ("LinkTree$Task", "path", "[I", true)
  | 2 => ("LinkTree$Task", "idle", "Z", false)
  | 3 => ("LinkTree$Task", "operation", "I", false)
  | 4 => ("LinkTree$Task", "phase", "I", false)
  | 5 => ("LinkTree$Task", "place", "I", false)
  | 6 => ("LinkTree$Task", "key", "I", false)
  | 7 => ("LinkTree$Task", "value", "I", false)
  | 8 => ("LinkTree$Task", "level", "I", false)
  | 9 => ("LinkTree$Task", "subject", "I", false)
  | 10 => ("LinkTree$Task", "hasAnswered", "Z", false)
  | 11 => ("LinkTree$Task", "latestAnswer", "I", false)
  | 12 => ("LinkTree$Task", "steps", "I", false)
  | 13 => ("LinkTree$Task", "blocks", "I", false)
  | 14 => ("LinkTree$Task", "rights", "I", false)
  | _ => ("LinkTree$Task", "restarts", "I", false)
def ty_TA : Nat → FieldType := fun k => match k with
  | 0 => .int
  | 1 => .array .int
  | 2 => .boolean
  | 3 => .int
  | 4 => .int
  | 5 => .int
  | 6 => .int
  | 7 => .int
  | 8 => .int
  | 9 => .int
  | 10 => .boolean
  | 11 => .int
  | 12 => .int
  | 13 => .int
  | 14 => .int
  | _ => .int
theorem nm_TA : ∀ a, a < 16 → ∀ b, b < 16 → a ≠ b → (T_TA a).2.1 ≠ (T_TA b).2.1 := by decide +kernel
theorem ty_TA_ok : ∀ k, k < 16 → parseFieldDescriptor (T_TA k).2.2.1 = some (ty_TA k) := by decide +kernel
def R_SP : String := "LinkTree$SmallPages"
def T_SP : u_T := fun k => match k with
  | 0 => ("LinkTree$SmallPages", "pages", "[I", true)
  | _ => ("LinkTree$SmallPages", "count", "I", false)
def ty_SP : Nat → FieldType := fun k => match k with
  | 0 => .array .int
  | _ => .int
theorem nm_SP : ∀ a, a < 2 → ∀ b, b < 2 → a ≠ b → (T_SP a).2.1 ≠ (T_SP b).2.1 := by decide +kernel
theorem ty_SP_ok : ∀ k, k < 2 → parseFieldDescriptor (T_SP k).2.2.1 = some (ty_SP k) := by decide +kernel
def R_MO : String := "LinkTreeModel"
def T_MO : u_T := fun k => match k with
  | 0 => ("LinkTreeModel", "thrown", "I", false)
  | 1 => ("LinkTreeModel", "kind", "[I", true)
  | 2 => ("LinkTreeModel", "level", "[I", true)
  | 3 => ("LinkTreeModel", "low", "[I", true)
  | 4 => ("LinkTreeModel", "high", "[I", true)
  | 5 => ("LinkTreeModel", "right", "[I", true)
  | 6 => ("LinkTreeModel", "count", "[I", true)
  | 7 => ("LinkTreeModel", "owner", "[I", true)
  | 8 => ("LinkTreeModel", "first", "[I", true)
  | 9 => ("LinkTreeModel", "second", "[I", true)
  | 10 => ("LinkTreeModel", "awaited", "[I", true)
  | 11 => ("LinkTreeModel", "root", "I", false)
  | 12 => ("LinkTreeModel", "queued", "I", false)
  | 13 => ("LinkTreeModel", "queue", "[I", true)
  | 14 => ("LinkTreeModel", "busy", "[Z", true)
  | 15 => ("LinkTreeModel", "operation", "[I", true)
  | 16 => ("LinkTreeModel", "phase", "[I", true)
  | 17 => ("LinkTreeModel", "place", "[I", true)
  | 18 => ("LinkTreeModel", "key", "[I", true)
  | 19 => ("LinkTreeModel", "want", "[I", true)
  | 20 => ("LinkTreeModel", "given", "[I", true)
  | 21 => ("LinkTreeModel", "about", "[I", true)
  | 22 => ("LinkTreeModel", "path", "[I", true)
  | 23 => ("LinkTreeModel", "answered", "[Z", true)
  | 24 => ("LinkTreeModel", "answers", "[I", true)
  | 25 => ("LinkTreeModel", "counts", "[I", true)
  | _ => ("LinkTreeModel", "open", "[I", true)
def ty_MO : Nat → FieldType := fun k => match k with
  | 0 => .int
  | 1 => .array .int
  | 2 => .array .int
  | 3 => .array .int
  | 4 => .array .int
  | 5 => .array .int
  | 6 => .array .int
  | 7 => .array .int
  | 8 => .array .int
  | 9 => .array .int
  | 10 => .array .int
  | 11 => .int
  | 12 => .int
  | 13 => .array .int
  | 14 => .array .boolean
  | 15 => .array .int
  | 16 => .array .int
  | 17 => .array .int
  | 18 => .array .int
  | 19 => .array .int
  | 20 => .array .int
  | 21 => .array .int
  | 22 => .array .int
  | 23 => .array .boolean
  | 24 => .array .int
  | 25 => .array .int
  | _ => .array .int
theorem nm_MO : ∀ a, a < 27 → ∀ b, b < 27 → a ≠ b → (T_MO a).2.1 ≠ (T_MO b).2.1 := by decide +kernel
theorem ty_MO_ok : ∀ k, k < 27 → parseFieldDescriptor (T_MO k).2.2.1 = some (ty_MO k) := by decide +kernel
def R_LW : String := "LinkTreeLaw"
abbrev b_LT_init : ByteArray := prog_1_method_1_code
def y_LT_init : MethodName := ⟨R_LT, "<init>", "()V"⟩
abbrev b_ND_init : ByteArray := prog_2_method_1_code
def y_ND_init : MethodName := ⟨R_ND, "<init>", "(I)V"⟩
abbrev b_TA_init : ByteArray := prog_4_method_1_code
def y_TA_init : MethodName := ⟨R_TA, "<init>", "(I)V"⟩
abbrev b_SP_init : ByteArray := prog_3_method_1_code
def y_SP_init : MethodName := ⟨R_SP, "<init>", "()V"⟩
abbrev b_ND_become : ByteArray := prog_2_method_2_code
def y_ND_become : MethodName := ⟨R_ND, "become", "(IIII)V"⟩
abbrev b_LT_root : ByteArray := prog_1_method_8_code
def y_LT_root : MethodName := ⟨R_LT, "root", "()I"⟩
abbrev b_LT_queued : ByteArray := prog_1_method_9_code
def y_LT_queued : MethodName := ⟨R_LT, "queued", "()I"⟩
abbrev b_LW_begin : ByteArray := method_3_code
def y_LW_begin : MethodName := ⟨R_LW, "begin", "(LLinkTree;IIII)I"⟩
abbrev b_LT_begin : ByteArray := prog_1_method_2_code
def y_LT_begin : MethodName := ⟨R_LT, "begin", "(IIII)V"⟩
abbrev b_LT_isTask : ByteArray := prog_1_method_11_code
def y_LT_isTask : MethodName := ⟨R_LT, "isTask", "(I)Z"⟩
abbrev b_TA_searchAnew : ByteArray := prog_4_method_2_code
def y_TA_searchAnew : MethodName := ⟨R_TA, "searchAnew", "(I)V"⟩
abbrev b_LT_chooseSmallPage : ByteArray := prog_1_method_15_code
def y_LT_chooseSmallPage : MethodName := ⟨R_LT, "chooseSmallPage", "(LLinkTree$Task;)V"⟩
abbrev b_SP_takeFirst : ByteArray := prog_3_method_3_code
def y_SP_takeFirst : MethodName := ⟨R_SP, "takeFirst", "()I"⟩
abbrev b_SP_drop : ByteArray := prog_3_method_4_code
def y_SP_drop : MethodName := ⟨R_SP, "drop", "(I)V"⟩
abbrev b_LT_nodeAt : ByteArray := prog_1_method_13_code
def y_LT_nodeAt : MethodName := ⟨R_LT, "nodeAt", "(I)LLinkTree$Node;"⟩
abbrev b_LT_isPage : ByteArray := prog_1_method_12_code
def y_LT_isPage : MethodName := ⟨R_LT, "isPage", "(I)Z"⟩
abbrev b_LW_step : ByteArray := method_4_code
def y_LW_step : MethodName := ⟨R_LW, "step", "(LLinkTree;I[J)I"⟩
abbrev b_LT_step : ByteArray := prog_1_method_3_code
def y_LT_step : MethodName := ⟨R_LT, "step", "(I)I"⟩
abbrev b_LT_advance : ByteArray := prog_1_method_16_code
def y_LT_advance : MethodName := ⟨R_LT, "advance", "(LLinkTree$Task;)I"⟩
abbrev b_LT_finish : ByteArray := prog_1_method_23_code
def y_LT_finish : MethodName := ⟨R_LT, "finish", "(LLinkTree$Task;I)I"⟩
abbrev b_ND_awaitNoMore : ByteArray := prog_2_method_17_code
def y_ND_awaitNoMore : MethodName := ⟨R_ND, "awaitNoMore", "(I)V"⟩
abbrev b_ND_dieUntil : ByteArray := prog_2_method_16_code
def y_ND_dieUntil : MethodName := ⟨R_ND, "dieUntil", "(I)V"⟩
abbrev b_LT_search : ByteArray := prog_1_method_17_code
def y_LT_search : MethodName := ⟨R_LT, "search", "(LLinkTree$Task;LLinkTree$Node;)I"⟩
abbrev b_ND_isWrongFor : ByteArray := prog_2_method_3_code
def y_ND_isWrongFor : MethodName := ⟨R_ND, "isWrongFor", "(I)Z"⟩
abbrev b_LT_restart : ByteArray := prog_1_method_21_code
def y_LT_restart : MethodName := ⟨R_LT, "restart", "(LLinkTree$Task;)I"⟩
abbrev b_LT_goRight : ByteArray := prog_1_method_22_code
def y_LT_goRight : MethodName := ⟨R_LT, "goRight", "(LLinkTree$Task;LLinkTree$Node;)I"⟩
abbrev b_TA_note : ByteArray := prog_4_method_3_code
def y_TA_note : MethodName := ⟨R_TA, "note", "(II)V"⟩
abbrev b_ND_childFor : ByteArray := prog_2_method_7_code
def y_ND_childFor : MethodName := ⟨R_ND, "childFor", "(I)I"⟩
abbrev b_ND_firstNotBelow : ByteArray := prog_2_method_4_code
def y_ND_firstNotBelow : MethodName := ⟨R_ND, "firstNotBelow", "(I)I"⟩
abbrev b_LT_searchBelowWanted : ByteArray := prog_1_method_18_code
def y_LT_searchBelowWanted : MethodName := ⟨R_LT, "searchBelowWanted", "(LLinkTree$Task;)I"⟩
abbrev b_LT_leastFreeNode : ByteArray := prog_1_method_31_code
def y_LT_leastFreeNode : MethodName := ⟨R_LT, "leastFreeNode", "()LLinkTree$Node;"⟩
abbrev b_ND_insert : ByteArray := prog_2_method_9_code
def y_ND_insert : MethodName := ⟨R_ND, "insert", "(III)V"⟩
abbrev b_ND_valueOf : ByteArray := prog_2_method_6_code
def y_ND_valueOf : MethodName := ⟨R_ND, "valueOf", "(I)I"⟩
abbrev b_ND_hasKeyAt : ByteArray := prog_2_method_5_code
def y_ND_hasKeyAt : MethodName := ⟨R_ND, "hasKeyAt", "(II)Z"⟩
abbrev b_LT_lock : ByteArray := prog_1_method_19_code
def y_LT_lock : MethodName := ⟨R_LT, "lock", "(LLinkTree$Task;LLinkTree$Node;)I"⟩
abbrev b_LT_hold : ByteArray := prog_1_method_20_code
def y_LT_hold : MethodName := ⟨R_LT, "hold", "(LLinkTree$Task;LLinkTree$Node;)I"⟩
abbrev b_LT_put : ByteArray := prog_1_method_24_code
def y_LT_put : MethodName := ⟨R_LT, "put", "(LLinkTree$Task;LLinkTree$Node;)I"⟩
abbrev b_LT_split : ByteArray := prog_1_method_26_code
def y_LT_split : MethodName := ⟨R_LT, "split", "(LLinkTree$Task;LLinkTree$Node;LLinkTree$Node;)V"⟩
abbrev b_TA_notedAt : ByteArray := prog_4_method_4_code
def y_TA_notedAt : MethodName := ⟨R_TA, "notedAt", "(I)I"⟩
abbrev b_LT_remove : ByteArray := prog_1_method_27_code
def y_LT_remove : MethodName := ⟨R_LT, "remove", "(LLinkTree$Task;LLinkTree$Node;)I"⟩
abbrev b_ND_delete : ByteArray := prog_2_method_10_code
def y_ND_delete : MethodName := ⟨R_ND, "delete", "(I)V"⟩
abbrev b_SP_add : ByteArray := prog_3_method_2_code
def y_SP_add : MethodName := ⟨R_SP, "add", "(I)V"⟩
abbrev b_SP_has : ByteArray := prog_3_method_5_code
def y_SP_has : MethodName := ⟨R_SP, "has", "(I)Z"⟩
abbrev b_LT_join : ByteArray := prog_1_method_28_code
def y_LT_join : MethodName := ⟨R_LT, "join", "(LLinkTree$Task;LLinkTree$Node;)I"⟩
abbrev b_ND_entryOfChild : ByteArray := prog_2_method_8_code
def y_ND_entryOfChild : MethodName := ⟨R_ND, "entryOfChild", "(I)I"⟩
abbrev b_ND_takeAllOf : ByteArray := prog_2_method_12_code
def y_ND_takeAllOf : MethodName := ⟨R_ND, "takeAllOf", "(LLinkTree$Node;)V"⟩
abbrev b_ND_moveFirstOf : ByteArray := prog_2_method_14_code
def y_ND_moveFirstOf : MethodName := ⟨R_ND, "moveFirstOf", "(LLinkTree$Node;I)V"⟩
abbrev b_LT_die : ByteArray := prog_1_method_30_code
def y_LT_die : MethodName := ⟨R_LT, "die", "(LLinkTree$Node;LLinkTree$Task;)V"⟩
abbrev b_ND_shareWith : ByteArray := prog_2_method_13_code
def y_ND_shareWith : MethodName := ⟨R_ND, "shareWith", "(LLinkTree$Node;)V"⟩
abbrev b_ND_moveLastTo : ByteArray := prog_2_method_15_code
def y_ND_moveLastTo : MethodName := ⟨R_ND, "moveLastTo", "(LLinkTree$Node;I)V"⟩
abbrev b_LT_lowerOrQueue : ByteArray := prog_1_method_29_code
def y_LT_lowerOrQueue : MethodName := ⟨R_LT, "lowerOrQueue", "(LLinkTree$Node;LLinkTree$Task;)V"⟩
abbrev b_LT_post : ByteArray := prog_1_method_25_code
def y_LT_post : MethodName := ⟨R_LT, "post", "(LLinkTree$Task;LLinkTree$Node;)I"⟩
abbrev b_ND_divideEntry : ByteArray := prog_2_method_11_code
def y_ND_divideEntry : MethodName := ⟨R_ND, "divideEntry", "(II)V"⟩
abbrev b_LW_answer : ByteArray := method_5_code
def y_LW_answer : MethodName := ⟨R_LW, "answer", "(LLinkTree;I[J)I"⟩
abbrev b_LT_answer : ByteArray := prog_1_method_4_code
def y_LT_answer : MethodName := ⟨R_LT, "answer", "(I)I"⟩
abbrev b_LW_look : ByteArray := method_6_code
def y_LW_look : MethodName := ⟨R_LW, "look", "(LLinkTree;II[J)I"⟩
abbrev b_LT_look : ByteArray := prog_1_method_5_code
def y_LT_look : MethodName := ⟨R_LT, "look", "(II)I"⟩
abbrev b_LW_page : ByteArray := method_7_code
def y_LW_page : MethodName := ⟨R_LW, "page", "(LLinkTree;II[J)I"⟩
abbrev b_LT_page : ByteArray := prog_1_method_6_code
def y_LT_page : MethodName := ⟨R_LT, "page", "(II)I"⟩
abbrev b_LW_entry : ByteArray := method_8_code
def y_LW_entry : MethodName := ⟨R_LW, "entry", "(LLinkTree;IIZ[J)I"⟩
abbrev b_LT_entry : ByteArray := prog_1_method_7_code
def y_LT_entry : MethodName := ⟨R_LT, "entry", "(IIZ)I"⟩
abbrev b_LW_under : ByteArray := method_9_code
def y_LW_under : MethodName := ⟨R_LW, "under", "(LLinkTree;I[J)I"⟩
abbrev b_LT_under : ByteArray := prog_1_method_10_code
def y_LT_under : MethodName := ⟨R_LT, "under", "(I)I"⟩
abbrev b_LT_leafEntries : ByteArray := prog_1_method_14_code
def y_LT_leafEntries : MethodName := ⟨R_LT, "leafEntries", "(LLinkTree$Node;I)I"⟩
abbrev b_MO_init : ByteArray := prog_6_method_1_code
def y_MO_init : MethodName := ⟨R_MO, "<init>", "()V"⟩
abbrev b_MO_thrown : ByteArray := prog_6_method_2_code
def y_MO_thrown : MethodName := ⟨R_MO, "thrown", "()I"⟩
abbrev b_MO_begin : ByteArray := prog_6_method_21_code
def y_MO_begin : MethodName := ⟨R_MO, "begin", "(IIII)V"⟩
abbrev b_MO_isTask : ByteArray := prog_6_method_16_code
def y_MO_isTask : MethodName := ⟨R_MO, "isTask", "(I)Z"⟩
abbrev b_MO_within : ByteArray := prog_6_method_3_code
def y_MO_within : MethodName := ⟨R_MO, "within", "(III)Z"⟩
abbrev b_MO_fails : ByteArray := prog_6_method_4_code
def y_MO_fails : MethodName := ⟨R_MO, "fails", "(ZI)Z"⟩
abbrev b_MO_forgetPath : ByteArray := prog_6_method_18_code
def y_MO_forgetPath : MethodName := ⟨R_MO, "forgetPath", "(I)V"⟩
abbrev b_MO_search : ByteArray := prog_6_method_17_code
def y_MO_search : MethodName := ⟨R_MO, "search", "(II)V"⟩
abbrev b_MO_beginJoin : ByteArray := prog_6_method_22_code
def y_MO_beginJoin : MethodName := ⟨R_MO, "beginJoin", "(I)V"⟩
abbrev b_MO_leaveQueue : ByteArray := prog_6_method_13_code
def y_MO_leaveQueue : MethodName := ⟨R_MO, "leaveQueue", "(I)V"⟩
abbrev b_MO_step : ByteArray := prog_6_method_29_code
def y_MO_step : MethodName := ⟨R_MO, "step", "(I)I"⟩
abbrev b_MO_searches : ByteArray := prog_6_method_25_code
def y_MO_searches : MethodName := ⟨R_MO, "searches", "(I)I"⟩
abbrev b_MO_finish : ByteArray := prog_6_method_20_code
def y_MO_finish : MethodName := ⟨R_MO, "finish", "(II)I"⟩
abbrev b_MO_release : ByteArray := prog_6_method_15_code
def y_MO_release : MethodName := ⟨R_MO, "release", "(I)V"⟩
abbrev b_MO_isLost : ByteArray := prog_6_method_23_code
def y_MO_isLost : MethodName := ⟨R_MO, "isLost", "(I)Z"⟩
abbrev b_MO_restart : ByteArray := prog_6_method_19_code
def y_MO_restart : MethodName := ⟨R_MO, "restart", "(I)I"⟩
abbrev b_MO_goRight : ByteArray := prog_6_method_24_code
def y_MO_goRight : MethodName := ⟨R_MO, "goRight", "(I)V"⟩
abbrev b_MO_from : ByteArray := prog_6_method_10_code
def y_MO_from : MethodName := ⟨R_MO, "from", "(II)I"⟩
abbrev b_MO_rises : ByteArray := prog_6_method_26_code
def y_MO_rises : MethodName := ⟨R_MO, "rises", "(I)I"⟩
abbrev b_MO_freePage : ByteArray := prog_6_method_5_code
def y_MO_freePage : MethodName := ⟨R_MO, "freePage", "()I"⟩
abbrev b_MO_make : ByteArray := prog_6_method_6_code
def y_MO_make : MethodName := ⟨R_MO, "make", "(IIIII)V"⟩
abbrev b_MO_append : ByteArray := prog_6_method_7_code
def y_MO_append : MethodName := ⟨R_MO, "append", "(III)V"⟩
abbrev b_MO_has : ByteArray := prog_6_method_11_code
def y_MO_has : MethodName := ⟨R_MO, "has", "(II)Z"⟩
abbrev b_MO_locks : ByteArray := prog_6_method_27_code
def y_MO_locks : MethodName := ⟨R_MO, "locks", "(I)I"⟩
abbrev b_MO_holds : ByteArray := prog_6_method_28_code
def y_MO_holds : MethodName := ⟨R_MO, "holds", "(I)I"⟩
abbrev b_MO_puts : ByteArray := prog_6_method_30_code
def y_MO_puts : MethodName := ⟨R_MO, "puts", "(II)I"⟩
abbrev b_MO_insert : ByteArray := prog_6_method_8_code
def y_MO_insert : MethodName := ⟨R_MO, "insert", "(IIII)V"⟩
abbrev b_MO_split : ByteArray := prog_6_method_31_code
def y_MO_split : MethodName := ⟨R_MO, "split", "(II)V"⟩
abbrev b_MO_posts : ByteArray := prog_6_method_32_code
def y_MO_posts : MethodName := ⟨R_MO, "posts", "(II)I"⟩
abbrev b_MO_removes : ByteArray := prog_6_method_33_code
def y_MO_removes : MethodName := ⟨R_MO, "removes", "(II)I"⟩
abbrev b_MO_takeOut : ByteArray := prog_6_method_9_code
def y_MO_takeOut : MethodName := ⟨R_MO, "takeOut", "(II)V"⟩
abbrev b_MO_comeIntoQueue : ByteArray := prog_6_method_12_code
def y_MO_comeIntoQueue : MethodName := ⟨R_MO, "comeIntoQueue", "(I)V"⟩
abbrev b_MO_joins : ByteArray := prog_6_method_35_code
def y_MO_joins : MethodName := ⟨R_MO, "joins", "(II)I"⟩
abbrev b_MO_childOf : ByteArray := prog_6_method_34_code
def y_MO_childOf : MethodName := ⟨R_MO, "childOf", "(II)I"⟩
abbrev b_MO_balance : ByteArray := prog_6_method_36_code
def y_MO_balance : MethodName := ⟨R_MO, "balance", "(II)V"⟩
abbrev b_MO_die : ByteArray := prog_6_method_14_code
def y_MO_die : MethodName := ⟨R_MO, "die", "(II)V"⟩
abbrev b_MO_shrinks : ByteArray := prog_6_method_37_code
def y_MO_shrinks : MethodName := ⟨R_MO, "shrinks", "(II)V"⟩
abbrev b_MO_answer : ByteArray := prog_6_method_38_code
def y_MO_answer : MethodName := ⟨R_MO, "answer", "(I)I"⟩
abbrev b_MO_look : ByteArray := prog_6_method_39_code
def y_MO_look : MethodName := ⟨R_MO, "look", "(II)I"⟩
abbrev b_MO_page : ByteArray := prog_6_method_40_code
def y_MO_page : MethodName := ⟨R_MO, "page", "(II)I"⟩
abbrev b_MO_entry : ByteArray := prog_6_method_42_code
def y_MO_entry : MethodName := ⟨R_MO, "entry", "(IIZ)I"⟩
abbrev b_MO_isNode : ByteArray := prog_6_method_41_code
def y_MO_isNode : MethodName := ⟨R_MO, "isNode", "(I)Z"⟩
abbrev b_MO_root : ByteArray := prog_6_method_43_code
def y_MO_root : MethodName := ⟨R_MO, "root", "()I"⟩
abbrev b_MO_queued : ByteArray := prog_6_method_44_code
def y_MO_queued : MethodName := ⟨R_MO, "queued", "()I"⟩
abbrev b_MO_under : ByteArray := prog_6_method_45_code
def y_MO_under : MethodName := ⟨R_MO, "under", "(I)I"⟩
abbrev b_LW_law : ByteArray := code
def y_LW_law : MethodName := ⟨R_LW, "law", "([I)Z"⟩
def lk_G0 : List Cond := [.initialized R_LW, .initialized R_LT, .initialized R_ND, .initialized R_TA, .initialized R_SP, .initialized R_MO, .initialized "java/lang/Throwable", .initialized "java/lang/Exception", .initialized "java/lang/RuntimeException", .initialized "java/lang/IllegalArgumentException", .initialized "java/lang/IllegalStateException", .initialized "java/util/NoSuchElementException", .classLink R_LW 8 R_LT, .instantiable R_LT 5, .methodLink R_LW 40 y_LT_init, .instanceMethod y_LT_init, .code y_LT_init b_LT_init 2 none, .methodLink R_LT 3 objectInit, .instanceMethod objectInit, .code objectInit ⟨#[0xb1]⟩ 1 none, .classLink R_LT 9 R_ND, .instantiable R_ND 11, .methodLink R_LT 15 y_ND_init, .instanceMethod y_ND_init, .code y_ND_init b_ND_init 2 none, .methodLink R_ND 3 objectInit, .fieldLink R_ND 28 "LinkTree$Node" "number" "I", .fieldLink R_LT 198 "LinkTree$Node" "number" "I", .fieldLink R_ND 9 "LinkTree$Node" "keys" "[I", .fieldLink R_LT 158 "LinkTree$Node" "keys" "[I", .fieldLink R_ND 15 "LinkTree$Node" "seconds" "[I", .fieldLink R_LT 154 "LinkTree$Node" "seconds" "[I", .fieldLink R_ND 40 "LinkTree$Node" "count" "I", .fieldLink R_LT 142 "LinkTree$Node" "count" "I", .fieldLink R_ND 18 "LinkTree$Node" "kind" "I", .fieldLink R_LT 22 "LinkTree$Node" "kind" "I", .fieldLink R_ND 31 "LinkTree$Node" "level" "I", .fieldLink R_LT 132 "LinkTree$Node" "level" "I", .fieldLink R_ND 34 "LinkTree$Node" "low" "I", .fieldLink R_LT 133 "LinkTree$Node" "low" "I"]
def lk_G1 : List Cond := [.fieldLink R_ND 37 "LinkTree$Node" "high" "I", .fieldLink R_LT 136 "LinkTree$Node" "high" "I", .fieldLink R_ND 22 "LinkTree$Node" "right" "I", .fieldLink R_LT 139 "LinkTree$Node" "right" "I", .fieldLink R_ND 25 "LinkTree$Node" "locker" "I", .fieldLink R_LT 145 "LinkTree$Node" "locker" "I", .fieldLink R_ND 66 "LinkTree$Node" "awaited" "I", .arrayClass .int, .classLink R_LT 26 R_TA, .instantiable R_TA 16, .methodLink R_LT 32 y_TA_init, .instanceMethod y_TA_init, .code y_TA_init b_TA_init 2 none, .methodLink R_TA 3 objectInit, .fieldLink R_TA 19 "LinkTree$Task" "number" "I", .fieldLink R_LT 223 "LinkTree$Task" "number" "I", .fieldLink R_TA 9 "LinkTree$Task" "path" "[I", .fieldLink R_TA 15 "LinkTree$Task" "idle" "Z", .fieldLink R_LT 60 "LinkTree$Task" "idle" "Z", .fieldLink R_LT 69 "LinkTree$Task" "operation" "I", .fieldLink R_TA 23 "LinkTree$Task" "phase" "I", .fieldLink R_LT 115 "LinkTree$Task" "phase" "I", .fieldLink R_TA 26 "LinkTree$Task" "place" "I", .fieldLink R_LT 118 "LinkTree$Task" "place" "I", .fieldLink R_LT 72 "LinkTree$Task" "key" "I", .fieldLink R_LT 75 "LinkTree$Task" "value" "I", .fieldLink R_LT 78 "LinkTree$Task" "level" "I", .fieldLink R_LT 172 "LinkTree$Task" "subject" "I", .fieldLink R_LT 102 "LinkTree$Task" "hasAnswered" "Z", .fieldLink R_LT 110 "LinkTree$Task" "latestAnswer" "I", .fieldLink R_LT 96 "LinkTree$Task" "steps" "I", .fieldLink R_LT 99 "LinkTree$Task" "blocks" "I", .fieldLink R_LT 121 "LinkTree$Task" "rights" "I", .fieldLink R_LT 124 "LinkTree$Task" "restarts" "I", .classLink R_LT 33 R_SP, .instantiable R_SP 2, .instanceMethod y_SP_init, .code y_SP_init b_SP_init 1 none, .methodLink R_SP 3 objectInit, .fieldLink R_SP 9 "LinkTree$SmallPages" "pages" "[I"]
def lk_G2 : List Cond := [.fieldLink R_SP 15 "LinkTree$SmallPages" "count" "I", .fieldLink R_LT 161 "LinkTree$SmallPages" "count" "I", .methodLink R_LT 43 y_ND_become, .instanceMethod y_ND_become, .selects R_ND y_ND_become y_ND_become, .code y_ND_become b_ND_become 5 none, .fieldLink R_LT 11 "LinkTree" "nodes" "[LLinkTree$Node;", .fieldLink R_LT 18 "LinkTree" "nowhere" "LLinkTree$Node;", .fieldLink R_LT 28 "LinkTree" "tasks" "[LLinkTree$Task;", .fieldLink R_LT 36 "LinkTree" "small" "LLinkTree$SmallPages;", .fieldLink R_LT 40 "LinkTree" "rootPage" "I", .methodLink R_LW 72 y_LT_root, .instanceMethod y_LT_root, .selects R_LT y_LT_root y_LT_root, .code y_LT_root b_LT_root 1 (some (.int)), .methodLink R_LW 76 y_LT_queued, .instanceMethod y_LT_queued, .selects R_LT y_LT_queued y_LT_queued, .code y_LT_queued b_LT_queued 1 (some (.int)), .methodLink R_LW 44 y_LW_begin, .static y_LW_begin, .classLink R_LW 13 "java/lang/IllegalArgumentException", .classLink R_LW 15 "java/lang/IllegalStateException", .methodLink R_LW 7 y_LT_begin, .instanceMethod y_LT_begin, .selects R_LT y_LT_begin y_LT_begin, .code y_LT_begin b_LT_begin 6 none, .methodLink R_LT 47 y_LT_isTask, .static y_LT_isTask, .code y_LT_isTask b_LT_isTask 1 (some (.boolean)), .classLink R_LT 51 "java/lang/IllegalArgumentException", .arrayClass .byte, .classLink R_LT 64 "java/lang/IllegalStateException", .methodLink R_LT 81 y_TA_searchAnew, .instanceMethod y_TA_searchAnew, .selects R_TA y_TA_searchAnew y_TA_searchAnew, .code y_TA_searchAnew b_TA_searchAnew 3 none, .methodLink R_LT 84 y_LT_chooseSmallPage, .instanceMethod y_LT_chooseSmallPage, .code y_LT_chooseSmallPage b_LT_chooseSmallPage 4 none]
def lk_G3 : List Cond := [.methodLink R_LT 168 y_SP_takeFirst, .instanceMethod y_SP_takeFirst, .selects R_SP y_SP_takeFirst y_SP_takeFirst, .code y_SP_takeFirst b_SP_takeFirst 2 (some (.int)), .methodLink R_SP 23 y_SP_drop, .instanceMethod y_SP_drop, .selects R_SP y_SP_drop y_SP_drop, .code y_SP_drop b_SP_drop 4 none, .methodLink R_LT 148 y_LT_nodeAt, .instanceMethod y_LT_nodeAt, .code y_LT_nodeAt b_LT_nodeAt 2 (some (.object "LinkTree$Node")), .methodLink R_LT 127 y_LT_isPage, .static y_LT_isPage, .code y_LT_isPage b_LT_isPage 1 (some (.boolean)), .methodLink R_LW 54 y_LW_step, .static y_LW_step, .methodLink R_LW 17 y_LT_step, .instanceMethod y_LT_step, .selects R_LT y_LT_step y_LT_step, .code y_LT_step b_LT_step 4 (some (.int)), .methodLink R_LT 92 y_LT_advance, .instanceMethod y_LT_advance, .code y_LT_advance b_LT_advance 3 (some (.int)), .methodLink R_LT 175 y_LT_finish, .instanceMethod y_LT_finish, .code y_LT_finish b_LT_finish 4 (some (.int)), .methodLink R_LT 236 y_ND_awaitNoMore, .instanceMethod y_ND_awaitNoMore, .selects R_ND y_ND_awaitNoMore y_ND_awaitNoMore, .code y_ND_awaitNoMore b_ND_awaitNoMore 2 none, .methodLink R_ND 69 y_ND_dieUntil, .instanceMethod y_ND_dieUntil, .selects R_ND y_ND_dieUntil y_ND_dieUntil, .code y_ND_dieUntil b_ND_dieUntil 2 none, .methodLink R_LT 179 y_LT_search, .instanceMethod y_LT_search, .code y_LT_search b_LT_search 3 (some (.int)), .methodLink R_LT 189 y_ND_isWrongFor, .instanceMethod y_ND_isWrongFor, .selects R_ND y_ND_isWrongFor y_ND_isWrongFor]
def lk_G4 : List Cond := [.code y_ND_isWrongFor b_ND_isWrongFor 2 (some (.boolean)), .methodLink R_LT 192 y_LT_restart, .instanceMethod y_LT_restart, .code y_LT_restart b_LT_restart 2 (some (.int)), .methodLink R_LT 195 y_LT_goRight, .instanceMethod y_LT_goRight, .code y_LT_goRight b_LT_goRight 3 (some (.int)), .methodLink R_LT 201 y_TA_note, .instanceMethod y_TA_note, .selects R_TA y_TA_note y_TA_note, .code y_TA_note b_TA_note 3 none, .methodLink R_LT 205 y_ND_childFor, .instanceMethod y_ND_childFor, .selects R_ND y_ND_childFor y_ND_childFor, .code y_ND_childFor b_ND_childFor 3 (some (.int)), .methodLink R_ND 43 y_ND_firstNotBelow, .instanceMethod y_ND_firstNotBelow, .selects R_ND y_ND_firstNotBelow y_ND_firstNotBelow, .code y_ND_firstNotBelow b_ND_firstNotBelow 3 (some (.int)), .methodLink R_LT 209 y_LT_searchBelowWanted, .instanceMethod y_LT_searchBelowWanted, .code y_LT_searchBelowWanted b_LT_searchBelowWanted 4 (some (.int)), .methodLink R_LT 215 y_LT_leastFreeNode, .instanceMethod y_LT_leastFreeNode, .code y_LT_leastFreeNode b_LT_leastFreeNode 2 (some (.object "LinkTree$Node")), .methodLink R_LT 219 y_ND_insert, .instanceMethod y_ND_insert, .selects R_ND y_ND_insert y_ND_insert, .code y_ND_insert b_ND_insert 5 none, .methodLink R_LT 212 y_ND_valueOf, .instanceMethod y_ND_valueOf, .selects R_ND y_ND_valueOf y_ND_valueOf, .code y_ND_valueOf b_ND_valueOf 3 (some (.int)), .methodLink R_ND 47 y_ND_hasKeyAt, .instanceMethod y_ND_hasKeyAt, .selects R_ND y_ND_hasKeyAt y_ND_hasKeyAt, .code y_ND_hasKeyAt b_ND_hasKeyAt 3 (some (.boolean)), .methodLink R_LT 183 y_LT_lock, .instanceMethod y_LT_lock, .code y_LT_lock b_LT_lock 3 (some (.int))]
def lk_G5 : List Cond := [.methodLink R_LT 186 y_LT_hold, .instanceMethod y_LT_hold, .code y_LT_hold b_LT_hold 4 (some (.int)), .methodLink R_LT 224 y_LT_put, .instanceMethod y_LT_put, .code y_LT_put b_LT_put 5 (some (.int)), .methodLink R_LT 239 y_ND_firstNotBelow, .methodLink R_LT 242 y_ND_hasKeyAt, .methodLink R_LT 246 y_LT_split, .instanceMethod y_LT_split, .code y_LT_split b_LT_split 6 none, .methodLink R_LT 253 y_TA_notedAt, .instanceMethod y_TA_notedAt, .selects R_TA y_TA_notedAt y_TA_notedAt, .code y_TA_notedAt b_TA_notedAt 2 (some (.int)), .methodLink R_LT 227 y_LT_remove, .instanceMethod y_LT_remove, .code y_LT_remove b_LT_remove 5 (some (.int)), .methodLink R_LT 256 y_ND_delete, .instanceMethod y_ND_delete, .selects R_ND y_ND_delete y_ND_delete, .code y_ND_delete b_ND_delete 3 none, .methodLink R_LT 259 y_SP_add, .instanceMethod y_SP_add, .selects R_SP y_SP_add y_SP_add, .code y_SP_add b_SP_add 2 none, .methodLink R_SP 19 y_SP_has, .instanceMethod y_SP_has, .code y_SP_has b_SP_has 3 (some (.boolean)), .methodLink R_LT 230 y_LT_join, .instanceMethod y_LT_join, .code y_LT_join b_LT_join 7 (some (.int)), .methodLink R_LT 262 y_ND_entryOfChild, .instanceMethod y_ND_entryOfChild, .selects R_ND y_ND_entryOfChild y_ND_entryOfChild, .code y_ND_entryOfChild b_ND_entryOfChild 3 (some (.int)), .methodLink R_LT 265 y_ND_takeAllOf, .instanceMethod y_ND_takeAllOf, .selects R_ND y_ND_takeAllOf y_ND_takeAllOf, .code y_ND_takeAllOf b_ND_takeAllOf 2 none]
def lk_G6 : List Cond := [.methodLink R_ND 55 y_ND_moveFirstOf, .instanceMethod y_ND_moveFirstOf, .code y_ND_moveFirstOf b_ND_moveFirstOf 4 none, .methodLink R_ND 51 y_ND_insert, .methodLink R_ND 62 y_ND_delete, .methodLink R_LT 269 y_LT_die, .instanceMethod y_LT_die, .code y_LT_die b_LT_die 5 none, .methodLink R_LT 279 y_SP_drop, .methodLink R_LT 282 y_ND_dieUntil, .methodLink R_LT 273 y_ND_shareWith, .instanceMethod y_ND_shareWith, .selects R_ND y_ND_shareWith y_ND_shareWith, .code y_ND_shareWith b_ND_shareWith 3 none, .methodLink R_ND 59 y_ND_moveLastTo, .instanceMethod y_ND_moveLastTo, .code y_ND_moveLastTo b_ND_moveLastTo 4 none, .methodLink R_LT 276 y_LT_lowerOrQueue, .instanceMethod y_LT_lowerOrQueue, .code y_LT_lowerOrQueue b_LT_lowerOrQueue 3 none, .methodLink R_LT 233 y_LT_post, .instanceMethod y_LT_post, .code y_LT_post b_LT_post 4 (some (.int)), .methodLink R_LT 250 y_ND_divideEntry, .instanceMethod y_ND_divideEntry, .selects R_ND y_ND_divideEntry y_ND_divideEntry, .code y_ND_divideEntry b_ND_divideEntry 4 none, .methodLink R_LW 58 y_LW_answer, .static y_LW_answer, .classLink R_LW 24 "java/util/NoSuchElementException", .methodLink R_LW 21 y_LT_answer, .instanceMethod y_LT_answer, .selects R_LT y_LT_answer y_LT_answer, .code y_LT_answer b_LT_answer 3 (some (.int)), .classLink R_LT 105 "java/util/NoSuchElementException", .methodLink R_LW 61 y_LW_look, .static y_LW_look, .methodLink R_LW 26 y_LT_look, .instanceMethod y_LT_look, .selects R_LT y_LT_look y_LT_look]
def lk_G7 : List Cond := [.code y_LT_look b_LT_look 4 (some (.int)), .methodLink R_LW 65 y_LW_page, .static y_LW_page, .methodLink R_LW 30 y_LT_page, .instanceMethod y_LT_page, .selects R_LT y_LT_page y_LT_page, .code y_LT_page b_LT_page 4 (some (.int)), .methodLink R_LW 68 y_LW_entry, .static y_LW_entry, .methodLink R_LW 33 y_LT_entry, .instanceMethod y_LT_entry, .selects R_LT y_LT_entry y_LT_entry, .code y_LT_entry b_LT_entry 5 (some (.int)), .methodLink R_LW 80 y_LW_under, .static y_LW_under, .methodLink R_LW 37 y_LT_under, .instanceMethod y_LT_under, .selects R_LT y_LT_under y_LT_under, .code y_LT_under b_LT_under 3 (some (.int)), .methodLink R_LT 164 y_LT_leafEntries, .instanceMethod y_LT_leafEntries, .code y_LT_leafEntries b_LT_leafEntries 5 (some (.int)), .classLink R_LW 41 R_MO, .instantiable R_MO 27, .methodLink R_LW 43 y_MO_init, .instanceMethod y_MO_init, .code y_MO_init b_MO_init 2 none, .methodLink R_MO 1 objectInit, .fieldLink R_MO 83 "LinkTreeModel" "thrown" "I", .fieldLink R_MO 7 "LinkTreeModel" "kind" "[I", .fieldLink R_MO 13 "LinkTreeModel" "level" "[I", .fieldLink R_MO 16 "LinkTreeModel" "low" "[I", .fieldLink R_MO 19 "LinkTreeModel" "high" "[I", .fieldLink R_MO 22 "LinkTreeModel" "right" "[I", .fieldLink R_MO 25 "LinkTreeModel" "count" "[I", .fieldLink R_MO 28 "LinkTreeModel" "owner" "[I", .fieldLink R_MO 31 "LinkTreeModel" "first" "[I", .fieldLink R_MO 34 "LinkTreeModel" "second" "[I", .fieldLink R_MO 37 "LinkTreeModel" "awaited" "[I", .fieldLink R_MO 108 "LinkTreeModel" "root" "I"]
def lk_G8 : List Cond := [.fieldLink R_MO 91 "LinkTreeModel" "queued" "I", .fieldLink R_MO 40 "LinkTreeModel" "queue" "[I", .fieldLink R_MO 43 "LinkTreeModel" "busy" "[Z", .fieldLink R_MO 47 "LinkTreeModel" "operation" "[I", .fieldLink R_MO 50 "LinkTreeModel" "phase" "[I", .fieldLink R_MO 53 "LinkTreeModel" "place" "[I", .fieldLink R_MO 56 "LinkTreeModel" "key" "[I", .fieldLink R_MO 59 "LinkTreeModel" "want" "[I", .fieldLink R_MO 62 "LinkTreeModel" "given" "[I", .fieldLink R_MO 65 "LinkTreeModel" "about" "[I", .fieldLink R_MO 68 "LinkTreeModel" "path" "[I", .fieldLink R_MO 71 "LinkTreeModel" "answered" "[Z", .fieldLink R_MO 74 "LinkTreeModel" "answers" "[I", .fieldLink R_MO 77 "LinkTreeModel" "counts" "[I", .fieldLink R_MO 80 "LinkTreeModel" "open" "[I", .arrayClass .boolean, .methodLink R_LW 50 y_MO_thrown, .instanceMethod y_MO_thrown, .selects R_MO y_MO_thrown y_MO_thrown, .code y_MO_thrown b_MO_thrown 1 (some (.int)), .methodLink R_LW 49 y_MO_begin, .instanceMethod y_MO_begin, .selects R_MO y_MO_begin y_MO_begin, .code y_MO_begin b_MO_begin 5 none, .methodLink R_MO 115 y_MO_isTask, .instanceMethod y_MO_isTask, .code y_MO_isTask b_MO_isTask 2 (some (.boolean)), .methodLink R_MO 101 y_MO_within, .static y_MO_within, .code y_MO_within b_MO_within 3 (some (.boolean)), .methodLink R_MO 119 y_MO_fails, .instanceMethod y_MO_fails, .code y_MO_fails b_MO_fails 3 (some (.boolean)), .methodLink R_MO 105 y_MO_forgetPath, .instanceMethod y_MO_forgetPath, .code y_MO_forgetPath b_MO_forgetPath 3 none, .methodLink R_MO 111 y_MO_search, .instanceMethod y_MO_search, .code y_MO_search b_MO_search 3 none, .methodLink R_MO 123 y_MO_beginJoin]
def lk_G9 : List Cond := [.instanceMethod y_MO_beginJoin, .code y_MO_beginJoin b_MO_beginJoin 3 none, .methodLink R_MO 94 y_MO_leaveQueue, .instanceMethod y_MO_leaveQueue, .code y_MO_leaveQueue b_MO_leaveQueue 4 none, .methodLink R_LW 57 y_MO_step, .instanceMethod y_MO_step, .selects R_MO y_MO_step y_MO_step, .code y_MO_step b_MO_step 3 (some (.int)), .methodLink R_MO 170 y_MO_searches, .instanceMethod y_MO_searches, .code y_MO_searches b_MO_searches 3 (some (.int)), .methodLink R_MO 126 y_MO_finish, .instanceMethod y_MO_finish, .code y_MO_finish b_MO_finish 4 (some (.int)), .methodLink R_MO 98 y_MO_release, .instanceMethod y_MO_release, .code y_MO_release b_MO_release 2 none, .methodLink R_MO 129 y_MO_isLost, .instanceMethod y_MO_isLost, .code y_MO_isLost b_MO_isLost 3 (some (.boolean)), .methodLink R_MO 132 y_MO_restart, .instanceMethod y_MO_restart, .code y_MO_restart b_MO_restart 2 (some (.int)), .methodLink R_MO 136 y_MO_goRight, .instanceMethod y_MO_goRight, .code y_MO_goRight b_MO_goRight 2 none, .methodLink R_MO 87 y_MO_from, .instanceMethod y_MO_from, .code y_MO_from b_MO_from 4 (some (.int)), .methodLink R_MO 139 y_MO_rises, .instanceMethod y_MO_rises, .code y_MO_rises b_MO_rises 3 (some (.int)), .methodLink R_MO 146 y_MO_freePage, .instanceMethod y_MO_freePage, .code y_MO_freePage b_MO_freePage 2 (some (.int)), .methodLink R_MO 150 y_MO_make, .instanceMethod y_MO_make, .code y_MO_make b_MO_make 6 none, .methodLink R_MO 154 y_MO_append]
def lk_G10 : List Cond := [.instanceMethod y_MO_append, .code y_MO_append b_MO_append 4 none, .methodLink R_MO 142 y_MO_has, .instanceMethod y_MO_has, .code y_MO_has b_MO_has 4 (some (.boolean)), .methodLink R_MO 173 y_MO_locks, .instanceMethod y_MO_locks, .code y_MO_locks b_MO_locks 3 (some (.int)), .methodLink R_MO 176 y_MO_holds, .instanceMethod y_MO_holds, .code y_MO_holds b_MO_holds 5 (some (.int)), .methodLink R_MO 158 y_MO_puts, .instanceMethod y_MO_puts, .code y_MO_puts b_MO_puts 5 (some (.int)), .methodLink R_MO 179 y_MO_insert, .instanceMethod y_MO_insert, .code y_MO_insert b_MO_insert 6 none, .methodLink R_MO 183 y_MO_split, .instanceMethod y_MO_split, .code y_MO_split b_MO_split 5 none, .methodLink R_MO 161 y_MO_posts, .instanceMethod y_MO_posts, .code y_MO_posts b_MO_posts 4 (some (.int)), .methodLink R_MO 164 y_MO_removes, .instanceMethod y_MO_removes, .code y_MO_removes b_MO_removes 5 (some (.int)), .methodLink R_MO 186 y_MO_takeOut, .instanceMethod y_MO_takeOut, .code y_MO_takeOut b_MO_takeOut 4 none, .methodLink R_MO 189 y_MO_comeIntoQueue, .instanceMethod y_MO_comeIntoQueue, .code y_MO_comeIntoQueue b_MO_comeIntoQueue 4 none, .methodLink R_MO 167 y_MO_joins, .instanceMethod y_MO_joins, .code y_MO_joins b_MO_joins 7 (some (.int)), .methodLink R_MO 192 y_MO_childOf, .instanceMethod y_MO_childOf, .code y_MO_childOf b_MO_childOf 4 (some (.int)), .methodLink R_MO 195 y_MO_balance, .instanceMethod y_MO_balance]
def lk_G11 : List Cond := [.code y_MO_balance b_MO_balance 5 none, .methodLink R_MO 198 y_MO_die, .instanceMethod y_MO_die, .code y_MO_die b_MO_die 4 none, .methodLink R_MO 201 y_MO_shrinks, .instanceMethod y_MO_shrinks, .code y_MO_shrinks b_MO_shrinks 3 none, .methodLink R_LW 60 y_MO_answer, .instanceMethod y_MO_answer, .selects R_MO y_MO_answer y_MO_answer, .code y_MO_answer b_MO_answer 2 (some (.int)), .methodLink R_LW 64 y_MO_look, .instanceMethod y_MO_look, .selects R_MO y_MO_look y_MO_look, .code y_MO_look b_MO_look 3 (some (.int)), .methodLink R_LW 67 y_MO_page, .instanceMethod y_MO_page, .selects R_MO y_MO_page y_MO_page, .code y_MO_page b_MO_page 3 (some (.int)), .methodLink R_LW 71 y_MO_entry, .instanceMethod y_MO_entry, .selects R_MO y_MO_entry y_MO_entry, .code y_MO_entry b_MO_entry 4 (some (.int)), .methodLink R_MO 204 y_MO_isNode, .instanceMethod y_MO_isNode, .code y_MO_isNode b_MO_isNode 2 (some (.boolean)), .methodLink R_LW 75 y_MO_root, .instanceMethod y_MO_root, .selects R_MO y_MO_root y_MO_root, .code y_MO_root b_MO_root 1 (some (.int)), .methodLink R_LW 79 y_MO_queued, .instanceMethod y_MO_queued, .selects R_MO y_MO_queued y_MO_queued, .code y_MO_queued b_MO_queued 1 (some (.int)), .methodLink R_LW 82 y_MO_under, .instanceMethod y_MO_under, .selects R_MO y_MO_under y_MO_under, .code y_MO_under b_MO_under 6 (some (.int)), .arrayClass .long, .selects R_LT y_LT_chooseSmallPage y_LT_chooseSmallPage]
def lk_G12 : List Cond := [.selects R_LT y_LT_nodeAt y_LT_nodeAt, .selects R_LT y_LT_advance y_LT_advance, .selects R_LT y_LT_finish y_LT_finish, .selects R_LT y_LT_search y_LT_search, .selects R_LT y_LT_restart y_LT_restart, .selects R_LT y_LT_goRight y_LT_goRight, .selects R_LT y_LT_searchBelowWanted y_LT_searchBelowWanted, .selects R_LT y_LT_leastFreeNode y_LT_leastFreeNode, .selects R_LT y_LT_lock y_LT_lock, .selects R_LT y_LT_hold y_LT_hold, .selects R_LT y_LT_put y_LT_put, .selects R_LT y_LT_split y_LT_split, .selects R_LT y_LT_remove y_LT_remove, .selects R_SP y_SP_has y_SP_has, .selects R_LT y_LT_join y_LT_join, .selects R_ND y_ND_moveFirstOf y_ND_moveFirstOf, .selects R_LT y_LT_die y_LT_die, .selects R_ND y_ND_moveLastTo y_ND_moveLastTo, .selects R_LT y_LT_lowerOrQueue y_LT_lowerOrQueue, .selects R_LT y_LT_post y_LT_post, .selects R_LT y_LT_leafEntries y_LT_leafEntries, .selects R_MO y_MO_isTask y_MO_isTask, .selects R_MO y_MO_fails y_MO_fails, .selects R_MO y_MO_forgetPath y_MO_forgetPath, .selects R_MO y_MO_search y_MO_search, .selects R_MO y_MO_beginJoin y_MO_beginJoin, .selects R_MO y_MO_leaveQueue y_MO_leaveQueue, .selects R_MO y_MO_searches y_MO_searches, .selects R_MO y_MO_finish y_MO_finish, .selects R_MO y_MO_release y_MO_release, .selects R_MO y_MO_isLost y_MO_isLost, .selects R_MO y_MO_restart y_MO_restart, .selects R_MO y_MO_goRight y_MO_goRight, .selects R_MO y_MO_from y_MO_from, .selects R_MO y_MO_rises y_MO_rises, .selects R_MO y_MO_freePage y_MO_freePage, .selects R_MO y_MO_make y_MO_make, .selects R_MO y_MO_append y_MO_append, .selects R_MO y_MO_has y_MO_has, .selects R_MO y_MO_locks y_MO_locks]
def lk_G13 : List Cond := [.selects R_MO y_MO_holds y_MO_holds, .selects R_MO y_MO_puts y_MO_puts, .selects R_MO y_MO_insert y_MO_insert, .selects R_MO y_MO_split y_MO_split, .selects R_MO y_MO_posts y_MO_posts, .selects R_MO y_MO_removes y_MO_removes, .selects R_MO y_MO_takeOut y_MO_takeOut, .selects R_MO y_MO_comeIntoQueue y_MO_comeIntoQueue, .selects R_MO y_MO_joins y_MO_joins, .selects R_MO y_MO_childOf y_MO_childOf, .selects R_MO y_MO_balance y_MO_balance, .selects R_MO y_MO_die y_MO_die, .selects R_MO y_MO_shrinks y_MO_shrinks, .selects R_MO y_MO_isNode y_MO_isNode]
def lk_G : List Cond := lk_G0 ++ (lk_G1 ++ (lk_G2 ++ (lk_G3 ++ (lk_G4 ++ (lk_G5 ++ (lk_G6 ++ (lk_G7 ++ (lk_G8 ++ (lk_G9 ++ (lk_G10 ++ (lk_G11 ++ (lk_G12 ++ (lk_G13 ++ ((u_ws R_LT T_LT 5) ++ ((u_ws R_ND T_ND 11) ++ ((u_ws R_TA T_TA 16) ++ ((u_ws R_SP T_SP 2) ++ ((u_ws R_MO T_MO 27)))))))))))))))))))
theorem lk_inG0 {w : Cond} (h : w ∈ lk_G0) : w ∈ lk_G := List.mem_append_left _ (h)
theorem lk_inG1 {w : Cond} (h : w ∈ lk_G1) : w ∈ lk_G := List.mem_append_right _ (List.mem_append_left _ (h))
theorem lk_inG2 {w : Cond} (h : w ∈ lk_G2) : w ∈ lk_G := List.mem_append_right _ (List.mem_append_right _ (List.mem_append_left _ (h)))
theorem lk_inG3 {w : Cond} (h : w ∈ lk_G3) : w ∈ lk_G := List.mem_append_right _ (List.mem_append_right _ (List.mem_append_right _ (List.mem_append_left _ (h))))
theorem lk_inG4 {w : Cond} (h : w ∈ lk_G4) : w ∈ lk_G := List.mem_append_right _ (List.mem_append_right _ (List.mem_append_right _ (List.mem_append_right _ (List.mem_append_left _ (h)))))
theorem lk_inG5 {w : Cond} (h : w ∈ lk_G5) : w ∈ lk_G := List.mem_append_right _ (List.mem_append_right _ (List.mem_append_right _ (List.mem_append_right _ (List.mem_append_right _ (List.mem_append_left _ (h))))))
theorem lk_inG6 {w : Cond} (h : w ∈ lk_G6) : w ∈ lk_G := List.mem_append_right _ (List.mem_append_right _ (List.mem_append_right _ (List.mem_append_right _ (List.mem_append_right _ (List.mem_append_right _ (List.mem_append_left _ (h)))))))
theorem lk_inG7 {w : Cond} (h : w ∈ lk_G7) : w ∈ lk_G := List.mem_append_right _ (List.mem_append_right _ (List.mem_append_right _ (List.mem_append_right _ (List.mem_append_right _ (List.mem_append_right _ (List.mem_append_right _ (List.mem_append_left _ (h))))))))
theorem lk_inG8 {w : Cond} (h : w ∈ lk_G8) : w ∈ lk_G := List.mem_append_right _ (List.mem_append_right _ (List.mem_append_right _ (List.mem_append_right _ (List.mem_append_right _ (List.mem_append_right _ (List.mem_append_right _ (List.mem_append_right _ (List.mem_append_left _ (h)))))))))
theorem lk_inG9 {w : Cond} (h : w ∈ lk_G9) : w ∈ lk_G := List.mem_append_right _ (List.mem_append_right _ (List.mem_append_right _ (List.mem_append_right _ (List.mem_append_right _ (List.mem_append_right _ (List.mem_append_right _ (List.mem_append_right _ (List.mem_append_right _ (List.mem_append_left _ (h))))))))))
theorem lk_inG10 {w : Cond} (h : w ∈ lk_G10) : w ∈ lk_G := List.mem_append_right _ (List.mem_append_right _ (List.mem_append_right _ (List.mem_append_right _ (List.mem_append_right _ (List.mem_append_right _ (List.mem_append_right _ (List.mem_append_right _ (List.mem_append_right _ (List.mem_append_right _ (List.mem_append_left _ (h)))))))))))
theorem lk_inG11 {w : Cond} (h : w ∈ lk_G11) : w ∈ lk_G := List.mem_append_right _ (List.mem_append_right _ (List.mem_append_right _ (List.mem_append_right _ (List.mem_append_right _ (List.mem_append_right _ (List.mem_append_right _ (List.mem_append_right _ (List.mem_append_right _ (List.mem_append_right _ (List.mem_append_right _ (List.mem_append_left _ (h))))))))))))
theorem lk_inG12 {w : Cond} (h : w ∈ lk_G12) : w ∈ lk_G := List.mem_append_right _ (List.mem_append_right _ (List.mem_append_right _ (List.mem_append_right _ (List.mem_append_right _ (List.mem_append_right _ (List.mem_append_right _ (List.mem_append_right _ (List.mem_append_right _ (List.mem_append_right _ (List.mem_append_right _ (List.mem_append_right _ (List.mem_append_left _ (h)))))))))))))
theorem lk_inG13 {w : Cond} (h : w ∈ lk_G13) : w ∈ lk_G := List.mem_append_right _ (List.mem_append_right _ (List.mem_append_right _ (List.mem_append_right _ (List.mem_append_right _ (List.mem_append_right _ (List.mem_append_right _ (List.mem_append_right _ (List.mem_append_right _ (List.mem_append_right _ (List.mem_append_right _ (List.mem_append_right _ (List.mem_append_right _ (List.mem_append_left _ (h))))))))))))))
theorem gl_LT : ∀ w ∈ u_ws R_LT T_LT 5, w ∈ lk_G := fun w h => List.mem_append_right _ (List.mem_append_right _ (List.mem_append_right _ (List.mem_append_right _ (List.mem_append_right _ (List.mem_append_right _ (List.mem_append_right _ (List.mem_append_right _ (List.mem_append_right _ (List.mem_append_right _ (List.mem_append_right _ (List.mem_append_right _ (List.mem_append_right _ (List.mem_append_right _ (List.mem_append_left _ (h)))))))))))))))
theorem gl_ND : ∀ w ∈ u_ws R_ND T_ND 11, w ∈ lk_G := fun w h => List.mem_append_right _ (List.mem_append_right _ (List.mem_append_right _ (List.mem_append_right _ (List.mem_append_right _ (List.mem_append_right _ (List.mem_append_right _ (List.mem_append_right _ (List.mem_append_right _ (List.mem_append_right _ (List.mem_append_right _ (List.mem_append_right _ (List.mem_append_right _ (List.mem_append_right _ (List.mem_append_right _ (List.mem_append_left _ (h))))))))))))))))
theorem gl_TA : ∀ w ∈ u_ws R_TA T_TA 16, w ∈ lk_G := fun w h => List.mem_append_right _ (List.mem_append_right _ (List.mem_append_right _ (List.mem_append_right _ (List.mem_append_right _ (List.mem_append_right _ (List.mem_append_right _ (List.mem_append_right _ (List.mem_append_right _ (List.mem_append_right _ (List.mem_append_right _ (List.mem_append_right _ (List.mem_append_right _ (List.mem_append_right _ (List.mem_append_right _ (List.mem_append_right _ (List.mem_append_left _ (h)))))))))))))))))
theorem gl_SP : ∀ w ∈ u_ws R_SP T_SP 2, w ∈ lk_G := fun w h => List.mem_append_right _ (List.mem_append_right _ (List.mem_append_right _ (List.mem_append_right _ (List.mem_append_right _ (List.mem_append_right _ (List.mem_append_right _ (List.mem_append_right _ (List.mem_append_right _ (List.mem_append_right _ (List.mem_append_right _ (List.mem_append_right _ (List.mem_append_right _ (List.mem_append_right _ (List.mem_append_right _ (List.mem_append_right _ (List.mem_append_right _ (List.mem_append_left _ (h))))))))))))))))))
theorem gl_MO : ∀ w ∈ u_ws R_MO T_MO 27, w ∈ lk_G := fun w h => List.mem_append_right _ (List.mem_append_right _ (List.mem_append_right _ (List.mem_append_right _ (List.mem_append_right _ (List.mem_append_right _ (List.mem_append_right _ (List.mem_append_right _ (List.mem_append_right _ (List.mem_append_right _ (List.mem_append_right _ (List.mem_append_right _ (List.mem_append_right _ (List.mem_append_right _ (List.mem_append_right _ (List.mem_append_right _ (List.mem_append_right _ (List.mem_append_right _ (h))))))))))))))))))
theorem gn_LW : Cond.initialized R_LW ∈ lk_G := lk_inG0 (List.mem_of_getElem? (i := 0) rfl)
theorem gn_LT : Cond.initialized R_LT ∈ lk_G := lk_inG0 (List.mem_of_getElem? (i := 1) rfl)
theorem gn_ND : Cond.initialized R_ND ∈ lk_G := lk_inG0 (List.mem_of_getElem? (i := 2) rfl)
theorem gn_TA : Cond.initialized R_TA ∈ lk_G := lk_inG0 (List.mem_of_getElem? (i := 3) rfl)
theorem gn_SP : Cond.initialized R_SP ∈ lk_G := lk_inG0 (List.mem_of_getElem? (i := 4) rfl)
theorem gn_MO : Cond.initialized R_MO ∈ lk_G := lk_inG0 (List.mem_of_getElem? (i := 5) rfl)
theorem gn_Throwable : Cond.initialized "java/lang/Throwable" ∈ lk_G := lk_inG0 (List.mem_of_getElem? (i := 6) rfl)
theorem gn_Exception : Cond.initialized "java/lang/Exception" ∈ lk_G := lk_inG0 (List.mem_of_getElem? (i := 7) rfl)
theorem gn_RuntimeException : Cond.initialized "java/lang/RuntimeException" ∈ lk_G := lk_inG0 (List.mem_of_getElem? (i := 8) rfl)
theorem gn_IllegalArgumentException : Cond.initialized "java/lang/IllegalArgumentException" ∈ lk_G := lk_inG0 (List.mem_of_getElem? (i := 9) rfl)
theorem gn_IllegalStateException : Cond.initialized "java/lang/IllegalStateException" ∈ lk_G := lk_inG0 (List.mem_of_getElem? (i := 10) rfl)
theorem gn_NoSuchElementException : Cond.initialized "java/util/NoSuchElementException" ∈ lk_G := lk_inG0 (List.mem_of_getElem? (i := 11) rfl)
theorem gk_LW_8 : Cond.classLink R_LW 8 R_LT ∈ lk_G := lk_inG0 (List.mem_of_getElem? (i := 12) rfl)
theorem ga_LT : Cond.instantiable R_LT 5 ∈ lk_G := lk_inG0 (List.mem_of_getElem? (i := 13) rfl)
theorem gm_LW_40 : Cond.methodLink R_LW 40 y_LT_init ∈ lk_G := lk_inG0 (List.mem_of_getElem? (i := 14) rfl)
theorem gi_LT_init : Cond.instanceMethod y_LT_init ∈ lk_G := lk_inG0 (List.mem_of_getElem? (i := 15) rfl)
theorem gc_LT_init : Cond.code y_LT_init b_LT_init 2 none ∈ lk_G := lk_inG0 (List.mem_of_getElem? (i := 16) rfl)
theorem gm_LT_3 : Cond.methodLink R_LT 3 objectInit ∈ lk_G := lk_inG0 (List.mem_of_getElem? (i := 17) rfl)
theorem gi_OBJ : Cond.instanceMethod objectInit ∈ lk_G := lk_inG0 (List.mem_of_getElem? (i := 18) rfl)
theorem gc_OBJ : Cond.code objectInit ⟨#[0xb1]⟩ 1 none ∈ lk_G := lk_inG0 (List.mem_of_getElem? (i := 19) rfl)
theorem gk_LT_9 : Cond.classLink R_LT 9 R_ND ∈ lk_G := lk_inG0 (List.mem_of_getElem? (i := 20) rfl)
theorem ga_ND : Cond.instantiable R_ND 11 ∈ lk_G := lk_inG0 (List.mem_of_getElem? (i := 21) rfl)
theorem gm_LT_15 : Cond.methodLink R_LT 15 y_ND_init ∈ lk_G := lk_inG0 (List.mem_of_getElem? (i := 22) rfl)
theorem gi_ND_init : Cond.instanceMethod y_ND_init ∈ lk_G := lk_inG0 (List.mem_of_getElem? (i := 23) rfl)
theorem gc_ND_init : Cond.code y_ND_init b_ND_init 2 none ∈ lk_G := lk_inG0 (List.mem_of_getElem? (i := 24) rfl)
theorem gm_ND_3 : Cond.methodLink R_ND 3 objectInit ∈ lk_G := lk_inG0 (List.mem_of_getElem? (i := 25) rfl)
theorem gf_ND_28 : Cond.fieldLink R_ND 28 "LinkTree$Node" "number" "I" ∈ lk_G := lk_inG0 (List.mem_of_getElem? (i := 26) rfl)
theorem gf_LT_198 : Cond.fieldLink R_LT 198 "LinkTree$Node" "number" "I" ∈ lk_G := lk_inG0 (List.mem_of_getElem? (i := 27) rfl)
theorem gf_ND_9 : Cond.fieldLink R_ND 9 "LinkTree$Node" "keys" "[I" ∈ lk_G := lk_inG0 (List.mem_of_getElem? (i := 28) rfl)
theorem gf_LT_158 : Cond.fieldLink R_LT 158 "LinkTree$Node" "keys" "[I" ∈ lk_G := lk_inG0 (List.mem_of_getElem? (i := 29) rfl)
theorem gf_ND_15 : Cond.fieldLink R_ND 15 "LinkTree$Node" "seconds" "[I" ∈ lk_G := lk_inG0 (List.mem_of_getElem? (i := 30) rfl)
theorem gf_LT_154 : Cond.fieldLink R_LT 154 "LinkTree$Node" "seconds" "[I" ∈ lk_G := lk_inG0 (List.mem_of_getElem? (i := 31) rfl)
theorem gf_ND_40 : Cond.fieldLink R_ND 40 "LinkTree$Node" "count" "I" ∈ lk_G := lk_inG0 (List.mem_of_getElem? (i := 32) rfl)
theorem gf_LT_142 : Cond.fieldLink R_LT 142 "LinkTree$Node" "count" "I" ∈ lk_G := lk_inG0 (List.mem_of_getElem? (i := 33) rfl)
theorem gf_ND_18 : Cond.fieldLink R_ND 18 "LinkTree$Node" "kind" "I" ∈ lk_G := lk_inG0 (List.mem_of_getElem? (i := 34) rfl)
theorem gf_LT_22 : Cond.fieldLink R_LT 22 "LinkTree$Node" "kind" "I" ∈ lk_G := lk_inG0 (List.mem_of_getElem? (i := 35) rfl)
theorem gf_ND_31 : Cond.fieldLink R_ND 31 "LinkTree$Node" "level" "I" ∈ lk_G := lk_inG0 (List.mem_of_getElem? (i := 36) rfl)
theorem gf_LT_132 : Cond.fieldLink R_LT 132 "LinkTree$Node" "level" "I" ∈ lk_G := lk_inG0 (List.mem_of_getElem? (i := 37) rfl)
theorem gf_ND_34 : Cond.fieldLink R_ND 34 "LinkTree$Node" "low" "I" ∈ lk_G := lk_inG0 (List.mem_of_getElem? (i := 38) rfl)
theorem gf_LT_133 : Cond.fieldLink R_LT 133 "LinkTree$Node" "low" "I" ∈ lk_G := lk_inG0 (List.mem_of_getElem? (i := 39) rfl)
theorem gf_ND_37 : Cond.fieldLink R_ND 37 "LinkTree$Node" "high" "I" ∈ lk_G := lk_inG1 (List.mem_of_getElem? (i := 0) rfl)
theorem gf_LT_136 : Cond.fieldLink R_LT 136 "LinkTree$Node" "high" "I" ∈ lk_G := lk_inG1 (List.mem_of_getElem? (i := 1) rfl)
theorem gf_ND_22 : Cond.fieldLink R_ND 22 "LinkTree$Node" "right" "I" ∈ lk_G := lk_inG1 (List.mem_of_getElem? (i := 2) rfl)
theorem gf_LT_139 : Cond.fieldLink R_LT 139 "LinkTree$Node" "right" "I" ∈ lk_G := lk_inG1 (List.mem_of_getElem? (i := 3) rfl)
theorem gf_ND_25 : Cond.fieldLink R_ND 25 "LinkTree$Node" "locker" "I" ∈ lk_G := lk_inG1 (List.mem_of_getElem? (i := 4) rfl)
theorem gf_LT_145 : Cond.fieldLink R_LT 145 "LinkTree$Node" "locker" "I" ∈ lk_G := lk_inG1 (List.mem_of_getElem? (i := 5) rfl)
theorem gf_ND_66 : Cond.fieldLink R_ND 66 "LinkTree$Node" "awaited" "I" ∈ lk_G := lk_inG1 (List.mem_of_getElem? (i := 6) rfl)
theorem gA_int : Cond.arrayClass .int ∈ lk_G := lk_inG1 (List.mem_of_getElem? (i := 7) rfl)
theorem gk_LT_26 : Cond.classLink R_LT 26 R_TA ∈ lk_G := lk_inG1 (List.mem_of_getElem? (i := 8) rfl)
theorem ga_TA : Cond.instantiable R_TA 16 ∈ lk_G := lk_inG1 (List.mem_of_getElem? (i := 9) rfl)
theorem gm_LT_32 : Cond.methodLink R_LT 32 y_TA_init ∈ lk_G := lk_inG1 (List.mem_of_getElem? (i := 10) rfl)
theorem gi_TA_init : Cond.instanceMethod y_TA_init ∈ lk_G := lk_inG1 (List.mem_of_getElem? (i := 11) rfl)
theorem gc_TA_init : Cond.code y_TA_init b_TA_init 2 none ∈ lk_G := lk_inG1 (List.mem_of_getElem? (i := 12) rfl)
theorem gm_TA_3 : Cond.methodLink R_TA 3 objectInit ∈ lk_G := lk_inG1 (List.mem_of_getElem? (i := 13) rfl)
theorem gf_TA_19 : Cond.fieldLink R_TA 19 "LinkTree$Task" "number" "I" ∈ lk_G := lk_inG1 (List.mem_of_getElem? (i := 14) rfl)
theorem gf_LT_223 : Cond.fieldLink R_LT 223 "LinkTree$Task" "number" "I" ∈ lk_G := lk_inG1 (List.mem_of_getElem? (i := 15) rfl)
theorem gf_TA_9 : Cond.fieldLink R_TA 9 "LinkTree$Task" "path" "[I" ∈ lk_G := lk_inG1 (List.mem_of_getElem? (i := 16) rfl)
theorem gf_TA_15 : Cond.fieldLink R_TA 15 "LinkTree$Task" "idle" "Z" ∈ lk_G := lk_inG1 (List.mem_of_getElem? (i := 17) rfl)
theorem gf_LT_60 : Cond.fieldLink R_LT 60 "LinkTree$Task" "idle" "Z" ∈ lk_G := lk_inG1 (List.mem_of_getElem? (i := 18) rfl)
theorem gf_LT_69 : Cond.fieldLink R_LT 69 "LinkTree$Task" "operation" "I" ∈ lk_G := lk_inG1 (List.mem_of_getElem? (i := 19) rfl)
theorem gf_TA_23 : Cond.fieldLink R_TA 23 "LinkTree$Task" "phase" "I" ∈ lk_G := lk_inG1 (List.mem_of_getElem? (i := 20) rfl)
theorem gf_LT_115 : Cond.fieldLink R_LT 115 "LinkTree$Task" "phase" "I" ∈ lk_G := lk_inG1 (List.mem_of_getElem? (i := 21) rfl)
theorem gf_TA_26 : Cond.fieldLink R_TA 26 "LinkTree$Task" "place" "I" ∈ lk_G := lk_inG1 (List.mem_of_getElem? (i := 22) rfl)
theorem gf_LT_118 : Cond.fieldLink R_LT 118 "LinkTree$Task" "place" "I" ∈ lk_G := lk_inG1 (List.mem_of_getElem? (i := 23) rfl)
theorem gf_LT_72 : Cond.fieldLink R_LT 72 "LinkTree$Task" "key" "I" ∈ lk_G := lk_inG1 (List.mem_of_getElem? (i := 24) rfl)
theorem gf_LT_75 : Cond.fieldLink R_LT 75 "LinkTree$Task" "value" "I" ∈ lk_G := lk_inG1 (List.mem_of_getElem? (i := 25) rfl)
theorem gf_LT_78 : Cond.fieldLink R_LT 78 "LinkTree$Task" "level" "I" ∈ lk_G := lk_inG1 (List.mem_of_getElem? (i := 26) rfl)
theorem gf_LT_172 : Cond.fieldLink R_LT 172 "LinkTree$Task" "subject" "I" ∈ lk_G := lk_inG1 (List.mem_of_getElem? (i := 27) rfl)
theorem gf_LT_102 : Cond.fieldLink R_LT 102 "LinkTree$Task" "hasAnswered" "Z" ∈ lk_G := lk_inG1 (List.mem_of_getElem? (i := 28) rfl)
theorem gf_LT_110 : Cond.fieldLink R_LT 110 "LinkTree$Task" "latestAnswer" "I" ∈ lk_G := lk_inG1 (List.mem_of_getElem? (i := 29) rfl)
theorem gf_LT_96 : Cond.fieldLink R_LT 96 "LinkTree$Task" "steps" "I" ∈ lk_G := lk_inG1 (List.mem_of_getElem? (i := 30) rfl)
theorem gf_LT_99 : Cond.fieldLink R_LT 99 "LinkTree$Task" "blocks" "I" ∈ lk_G := lk_inG1 (List.mem_of_getElem? (i := 31) rfl)
theorem gf_LT_121 : Cond.fieldLink R_LT 121 "LinkTree$Task" "rights" "I" ∈ lk_G := lk_inG1 (List.mem_of_getElem? (i := 32) rfl)
theorem gf_LT_124 : Cond.fieldLink R_LT 124 "LinkTree$Task" "restarts" "I" ∈ lk_G := lk_inG1 (List.mem_of_getElem? (i := 33) rfl)
theorem gk_LT_33 : Cond.classLink R_LT 33 R_SP ∈ lk_G := lk_inG1 (List.mem_of_getElem? (i := 34) rfl)
theorem ga_SP : Cond.instantiable R_SP 2 ∈ lk_G := lk_inG1 (List.mem_of_getElem? (i := 35) rfl)
theorem gi_SP_init : Cond.instanceMethod y_SP_init ∈ lk_G := lk_inG1 (List.mem_of_getElem? (i := 36) rfl)
theorem gc_SP_init : Cond.code y_SP_init b_SP_init 1 none ∈ lk_G := lk_inG1 (List.mem_of_getElem? (i := 37) rfl)
theorem gm_SP_3 : Cond.methodLink R_SP 3 objectInit ∈ lk_G := lk_inG1 (List.mem_of_getElem? (i := 38) rfl)
theorem gf_SP_9 : Cond.fieldLink R_SP 9 "LinkTree$SmallPages" "pages" "[I" ∈ lk_G := lk_inG1 (List.mem_of_getElem? (i := 39) rfl)
theorem gf_SP_15 : Cond.fieldLink R_SP 15 "LinkTree$SmallPages" "count" "I" ∈ lk_G := lk_inG2 (List.mem_of_getElem? (i := 0) rfl)
theorem gf_LT_161 : Cond.fieldLink R_LT 161 "LinkTree$SmallPages" "count" "I" ∈ lk_G := lk_inG2 (List.mem_of_getElem? (i := 1) rfl)
theorem gm_LT_43 : Cond.methodLink R_LT 43 y_ND_become ∈ lk_G := lk_inG2 (List.mem_of_getElem? (i := 2) rfl)
theorem gi_ND_become : Cond.instanceMethod y_ND_become ∈ lk_G := lk_inG2 (List.mem_of_getElem? (i := 3) rfl)
theorem gs_ND_become : Cond.selects R_ND y_ND_become y_ND_become ∈ lk_G := lk_inG2 (List.mem_of_getElem? (i := 4) rfl)
theorem gc_ND_become : Cond.code y_ND_become b_ND_become 5 none ∈ lk_G := lk_inG2 (List.mem_of_getElem? (i := 5) rfl)
theorem gf_LT_11 : Cond.fieldLink R_LT 11 "LinkTree" "nodes" "[LLinkTree$Node;" ∈ lk_G := lk_inG2 (List.mem_of_getElem? (i := 6) rfl)
theorem gf_LT_18 : Cond.fieldLink R_LT 18 "LinkTree" "nowhere" "LLinkTree$Node;" ∈ lk_G := lk_inG2 (List.mem_of_getElem? (i := 7) rfl)
theorem gf_LT_28 : Cond.fieldLink R_LT 28 "LinkTree" "tasks" "[LLinkTree$Task;" ∈ lk_G := lk_inG2 (List.mem_of_getElem? (i := 8) rfl)
theorem gf_LT_36 : Cond.fieldLink R_LT 36 "LinkTree" "small" "LLinkTree$SmallPages;" ∈ lk_G := lk_inG2 (List.mem_of_getElem? (i := 9) rfl)
theorem gf_LT_40 : Cond.fieldLink R_LT 40 "LinkTree" "rootPage" "I" ∈ lk_G := lk_inG2 (List.mem_of_getElem? (i := 10) rfl)
theorem gm_LW_72 : Cond.methodLink R_LW 72 y_LT_root ∈ lk_G := lk_inG2 (List.mem_of_getElem? (i := 11) rfl)
theorem gi_LT_root : Cond.instanceMethod y_LT_root ∈ lk_G := lk_inG2 (List.mem_of_getElem? (i := 12) rfl)
theorem gs_LT_root : Cond.selects R_LT y_LT_root y_LT_root ∈ lk_G := lk_inG2 (List.mem_of_getElem? (i := 13) rfl)
theorem gc_LT_root : Cond.code y_LT_root b_LT_root 1 (some (.int)) ∈ lk_G := lk_inG2 (List.mem_of_getElem? (i := 14) rfl)
theorem gm_LW_76 : Cond.methodLink R_LW 76 y_LT_queued ∈ lk_G := lk_inG2 (List.mem_of_getElem? (i := 15) rfl)
theorem gi_LT_queued : Cond.instanceMethod y_LT_queued ∈ lk_G := lk_inG2 (List.mem_of_getElem? (i := 16) rfl)
theorem gs_LT_queued : Cond.selects R_LT y_LT_queued y_LT_queued ∈ lk_G := lk_inG2 (List.mem_of_getElem? (i := 17) rfl)
theorem gc_LT_queued : Cond.code y_LT_queued b_LT_queued 1 (some (.int)) ∈ lk_G := lk_inG2 (List.mem_of_getElem? (i := 18) rfl)
theorem gm_LW_44 : Cond.methodLink R_LW 44 y_LW_begin ∈ lk_G := lk_inG2 (List.mem_of_getElem? (i := 19) rfl)
theorem gt_LW_begin : Cond.static y_LW_begin ∈ lk_G := lk_inG2 (List.mem_of_getElem? (i := 20) rfl)
theorem gk_LW_13 : Cond.classLink R_LW 13 "java/lang/IllegalArgumentException" ∈ lk_G := lk_inG2 (List.mem_of_getElem? (i := 21) rfl)
theorem gk_LW_15 : Cond.classLink R_LW 15 "java/lang/IllegalStateException" ∈ lk_G := lk_inG2 (List.mem_of_getElem? (i := 22) rfl)
theorem gm_LW_7 : Cond.methodLink R_LW 7 y_LT_begin ∈ lk_G := lk_inG2 (List.mem_of_getElem? (i := 23) rfl)
theorem gi_LT_begin : Cond.instanceMethod y_LT_begin ∈ lk_G := lk_inG2 (List.mem_of_getElem? (i := 24) rfl)
theorem gs_LT_begin : Cond.selects R_LT y_LT_begin y_LT_begin ∈ lk_G := lk_inG2 (List.mem_of_getElem? (i := 25) rfl)
theorem gc_LT_begin : Cond.code y_LT_begin b_LT_begin 6 none ∈ lk_G := lk_inG2 (List.mem_of_getElem? (i := 26) rfl)
theorem gm_LT_47 : Cond.methodLink R_LT 47 y_LT_isTask ∈ lk_G := lk_inG2 (List.mem_of_getElem? (i := 27) rfl)
theorem gt_LT_isTask : Cond.static y_LT_isTask ∈ lk_G := lk_inG2 (List.mem_of_getElem? (i := 28) rfl)
theorem gc_LT_isTask : Cond.code y_LT_isTask b_LT_isTask 1 (some (.boolean)) ∈ lk_G := lk_inG2 (List.mem_of_getElem? (i := 29) rfl)
theorem gk_LT_51 : Cond.classLink R_LT 51 "java/lang/IllegalArgumentException" ∈ lk_G := lk_inG2 (List.mem_of_getElem? (i := 30) rfl)
theorem gA_byte : Cond.arrayClass .byte ∈ lk_G := lk_inG2 (List.mem_of_getElem? (i := 31) rfl)
theorem gk_LT_64 : Cond.classLink R_LT 64 "java/lang/IllegalStateException" ∈ lk_G := lk_inG2 (List.mem_of_getElem? (i := 32) rfl)
theorem gm_LT_81 : Cond.methodLink R_LT 81 y_TA_searchAnew ∈ lk_G := lk_inG2 (List.mem_of_getElem? (i := 33) rfl)
theorem gi_TA_searchAnew : Cond.instanceMethod y_TA_searchAnew ∈ lk_G := lk_inG2 (List.mem_of_getElem? (i := 34) rfl)
theorem gs_TA_searchAnew : Cond.selects R_TA y_TA_searchAnew y_TA_searchAnew ∈ lk_G := lk_inG2 (List.mem_of_getElem? (i := 35) rfl)
theorem gc_TA_searchAnew : Cond.code y_TA_searchAnew b_TA_searchAnew 3 none ∈ lk_G := lk_inG2 (List.mem_of_getElem? (i := 36) rfl)
theorem gm_LT_84 : Cond.methodLink R_LT 84 y_LT_chooseSmallPage ∈ lk_G := lk_inG2 (List.mem_of_getElem? (i := 37) rfl)
theorem gi_LT_chooseSmallPage : Cond.instanceMethod y_LT_chooseSmallPage ∈ lk_G := lk_inG2 (List.mem_of_getElem? (i := 38) rfl)
theorem gc_LT_chooseSmallPage : Cond.code y_LT_chooseSmallPage b_LT_chooseSmallPage 4 none ∈ lk_G := lk_inG2 (List.mem_of_getElem? (i := 39) rfl)
theorem gm_LT_168 : Cond.methodLink R_LT 168 y_SP_takeFirst ∈ lk_G := lk_inG3 (List.mem_of_getElem? (i := 0) rfl)
theorem gi_SP_takeFirst : Cond.instanceMethod y_SP_takeFirst ∈ lk_G := lk_inG3 (List.mem_of_getElem? (i := 1) rfl)
theorem gs_SP_takeFirst : Cond.selects R_SP y_SP_takeFirst y_SP_takeFirst ∈ lk_G := lk_inG3 (List.mem_of_getElem? (i := 2) rfl)
theorem gc_SP_takeFirst : Cond.code y_SP_takeFirst b_SP_takeFirst 2 (some (.int)) ∈ lk_G := lk_inG3 (List.mem_of_getElem? (i := 3) rfl)
theorem gm_SP_23 : Cond.methodLink R_SP 23 y_SP_drop ∈ lk_G := lk_inG3 (List.mem_of_getElem? (i := 4) rfl)
theorem gi_SP_drop : Cond.instanceMethod y_SP_drop ∈ lk_G := lk_inG3 (List.mem_of_getElem? (i := 5) rfl)
theorem gs_SP_drop : Cond.selects R_SP y_SP_drop y_SP_drop ∈ lk_G := lk_inG3 (List.mem_of_getElem? (i := 6) rfl)
theorem gc_SP_drop : Cond.code y_SP_drop b_SP_drop 4 none ∈ lk_G := lk_inG3 (List.mem_of_getElem? (i := 7) rfl)
theorem gm_LT_148 : Cond.methodLink R_LT 148 y_LT_nodeAt ∈ lk_G := lk_inG3 (List.mem_of_getElem? (i := 8) rfl)
theorem gi_LT_nodeAt : Cond.instanceMethod y_LT_nodeAt ∈ lk_G := lk_inG3 (List.mem_of_getElem? (i := 9) rfl)
theorem gc_LT_nodeAt : Cond.code y_LT_nodeAt b_LT_nodeAt 2 (some (.object "LinkTree$Node")) ∈ lk_G := lk_inG3 (List.mem_of_getElem? (i := 10) rfl)
theorem gm_LT_127 : Cond.methodLink R_LT 127 y_LT_isPage ∈ lk_G := lk_inG3 (List.mem_of_getElem? (i := 11) rfl)
theorem gt_LT_isPage : Cond.static y_LT_isPage ∈ lk_G := lk_inG3 (List.mem_of_getElem? (i := 12) rfl)
theorem gc_LT_isPage : Cond.code y_LT_isPage b_LT_isPage 1 (some (.boolean)) ∈ lk_G := lk_inG3 (List.mem_of_getElem? (i := 13) rfl)
theorem gm_LW_54 : Cond.methodLink R_LW 54 y_LW_step ∈ lk_G := lk_inG3 (List.mem_of_getElem? (i := 14) rfl)
theorem gt_LW_step : Cond.static y_LW_step ∈ lk_G := lk_inG3 (List.mem_of_getElem? (i := 15) rfl)
theorem gm_LW_17 : Cond.methodLink R_LW 17 y_LT_step ∈ lk_G := lk_inG3 (List.mem_of_getElem? (i := 16) rfl)
theorem gi_LT_step : Cond.instanceMethod y_LT_step ∈ lk_G := lk_inG3 (List.mem_of_getElem? (i := 17) rfl)
theorem gs_LT_step : Cond.selects R_LT y_LT_step y_LT_step ∈ lk_G := lk_inG3 (List.mem_of_getElem? (i := 18) rfl)
theorem gc_LT_step : Cond.code y_LT_step b_LT_step 4 (some (.int)) ∈ lk_G := lk_inG3 (List.mem_of_getElem? (i := 19) rfl)
theorem gm_LT_92 : Cond.methodLink R_LT 92 y_LT_advance ∈ lk_G := lk_inG3 (List.mem_of_getElem? (i := 20) rfl)
theorem gi_LT_advance : Cond.instanceMethod y_LT_advance ∈ lk_G := lk_inG3 (List.mem_of_getElem? (i := 21) rfl)
theorem gc_LT_advance : Cond.code y_LT_advance b_LT_advance 3 (some (.int)) ∈ lk_G := lk_inG3 (List.mem_of_getElem? (i := 22) rfl)
theorem gm_LT_175 : Cond.methodLink R_LT 175 y_LT_finish ∈ lk_G := lk_inG3 (List.mem_of_getElem? (i := 23) rfl)
theorem gi_LT_finish : Cond.instanceMethod y_LT_finish ∈ lk_G := lk_inG3 (List.mem_of_getElem? (i := 24) rfl)
theorem gc_LT_finish : Cond.code y_LT_finish b_LT_finish 4 (some (.int)) ∈ lk_G := lk_inG3 (List.mem_of_getElem? (i := 25) rfl)
theorem gm_LT_236 : Cond.methodLink R_LT 236 y_ND_awaitNoMore ∈ lk_G := lk_inG3 (List.mem_of_getElem? (i := 26) rfl)
theorem gi_ND_awaitNoMore : Cond.instanceMethod y_ND_awaitNoMore ∈ lk_G := lk_inG3 (List.mem_of_getElem? (i := 27) rfl)
theorem gs_ND_awaitNoMore : Cond.selects R_ND y_ND_awaitNoMore y_ND_awaitNoMore ∈ lk_G := lk_inG3 (List.mem_of_getElem? (i := 28) rfl)
theorem gc_ND_awaitNoMore : Cond.code y_ND_awaitNoMore b_ND_awaitNoMore 2 none ∈ lk_G := lk_inG3 (List.mem_of_getElem? (i := 29) rfl)
theorem gm_ND_69 : Cond.methodLink R_ND 69 y_ND_dieUntil ∈ lk_G := lk_inG3 (List.mem_of_getElem? (i := 30) rfl)
theorem gi_ND_dieUntil : Cond.instanceMethod y_ND_dieUntil ∈ lk_G := lk_inG3 (List.mem_of_getElem? (i := 31) rfl)
theorem gs_ND_dieUntil : Cond.selects R_ND y_ND_dieUntil y_ND_dieUntil ∈ lk_G := lk_inG3 (List.mem_of_getElem? (i := 32) rfl)
theorem gc_ND_dieUntil : Cond.code y_ND_dieUntil b_ND_dieUntil 2 none ∈ lk_G := lk_inG3 (List.mem_of_getElem? (i := 33) rfl)
theorem gm_LT_179 : Cond.methodLink R_LT 179 y_LT_search ∈ lk_G := lk_inG3 (List.mem_of_getElem? (i := 34) rfl)
theorem gi_LT_search : Cond.instanceMethod y_LT_search ∈ lk_G := lk_inG3 (List.mem_of_getElem? (i := 35) rfl)
theorem gc_LT_search : Cond.code y_LT_search b_LT_search 3 (some (.int)) ∈ lk_G := lk_inG3 (List.mem_of_getElem? (i := 36) rfl)
theorem gm_LT_189 : Cond.methodLink R_LT 189 y_ND_isWrongFor ∈ lk_G := lk_inG3 (List.mem_of_getElem? (i := 37) rfl)
theorem gi_ND_isWrongFor : Cond.instanceMethod y_ND_isWrongFor ∈ lk_G := lk_inG3 (List.mem_of_getElem? (i := 38) rfl)
theorem gs_ND_isWrongFor : Cond.selects R_ND y_ND_isWrongFor y_ND_isWrongFor ∈ lk_G := lk_inG3 (List.mem_of_getElem? (i := 39) rfl)
theorem gc_ND_isWrongFor : Cond.code y_ND_isWrongFor b_ND_isWrongFor 2 (some (.boolean)) ∈ lk_G := lk_inG4 (List.mem_of_getElem? (i := 0) rfl)
theorem gm_LT_192 : Cond.methodLink R_LT 192 y_LT_restart ∈ lk_G := lk_inG4 (List.mem_of_getElem? (i := 1) rfl)
theorem gi_LT_restart : Cond.instanceMethod y_LT_restart ∈ lk_G := lk_inG4 (List.mem_of_getElem? (i := 2) rfl)
theorem gc_LT_restart : Cond.code y_LT_restart b_LT_restart 2 (some (.int)) ∈ lk_G := lk_inG4 (List.mem_of_getElem? (i := 3) rfl)
theorem gm_LT_195 : Cond.methodLink R_LT 195 y_LT_goRight ∈ lk_G := lk_inG4 (List.mem_of_getElem? (i := 4) rfl)
theorem gi_LT_goRight : Cond.instanceMethod y_LT_goRight ∈ lk_G := lk_inG4 (List.mem_of_getElem? (i := 5) rfl)
theorem gc_LT_goRight : Cond.code y_LT_goRight b_LT_goRight 3 (some (.int)) ∈ lk_G := lk_inG4 (List.mem_of_getElem? (i := 6) rfl)
theorem gm_LT_201 : Cond.methodLink R_LT 201 y_TA_note ∈ lk_G := lk_inG4 (List.mem_of_getElem? (i := 7) rfl)
theorem gi_TA_note : Cond.instanceMethod y_TA_note ∈ lk_G := lk_inG4 (List.mem_of_getElem? (i := 8) rfl)
theorem gs_TA_note : Cond.selects R_TA y_TA_note y_TA_note ∈ lk_G := lk_inG4 (List.mem_of_getElem? (i := 9) rfl)
theorem gc_TA_note : Cond.code y_TA_note b_TA_note 3 none ∈ lk_G := lk_inG4 (List.mem_of_getElem? (i := 10) rfl)
theorem gm_LT_205 : Cond.methodLink R_LT 205 y_ND_childFor ∈ lk_G := lk_inG4 (List.mem_of_getElem? (i := 11) rfl)
theorem gi_ND_childFor : Cond.instanceMethod y_ND_childFor ∈ lk_G := lk_inG4 (List.mem_of_getElem? (i := 12) rfl)
theorem gs_ND_childFor : Cond.selects R_ND y_ND_childFor y_ND_childFor ∈ lk_G := lk_inG4 (List.mem_of_getElem? (i := 13) rfl)
theorem gc_ND_childFor : Cond.code y_ND_childFor b_ND_childFor 3 (some (.int)) ∈ lk_G := lk_inG4 (List.mem_of_getElem? (i := 14) rfl)
theorem gm_ND_43 : Cond.methodLink R_ND 43 y_ND_firstNotBelow ∈ lk_G := lk_inG4 (List.mem_of_getElem? (i := 15) rfl)
theorem gi_ND_firstNotBelow : Cond.instanceMethod y_ND_firstNotBelow ∈ lk_G := lk_inG4 (List.mem_of_getElem? (i := 16) rfl)
theorem gs_ND_firstNotBelow : Cond.selects R_ND y_ND_firstNotBelow y_ND_firstNotBelow ∈ lk_G := lk_inG4 (List.mem_of_getElem? (i := 17) rfl)
theorem gc_ND_firstNotBelow : Cond.code y_ND_firstNotBelow b_ND_firstNotBelow 3 (some (.int)) ∈ lk_G := lk_inG4 (List.mem_of_getElem? (i := 18) rfl)
theorem gm_LT_209 : Cond.methodLink R_LT 209 y_LT_searchBelowWanted ∈ lk_G := lk_inG4 (List.mem_of_getElem? (i := 19) rfl)
theorem gi_LT_searchBelowWanted : Cond.instanceMethod y_LT_searchBelowWanted ∈ lk_G := lk_inG4 (List.mem_of_getElem? (i := 20) rfl)
theorem gc_LT_searchBelowWanted : Cond.code y_LT_searchBelowWanted b_LT_searchBelowWanted 4 (some (.int)) ∈ lk_G := lk_inG4 (List.mem_of_getElem? (i := 21) rfl)
theorem gm_LT_215 : Cond.methodLink R_LT 215 y_LT_leastFreeNode ∈ lk_G := lk_inG4 (List.mem_of_getElem? (i := 22) rfl)
theorem gi_LT_leastFreeNode : Cond.instanceMethod y_LT_leastFreeNode ∈ lk_G := lk_inG4 (List.mem_of_getElem? (i := 23) rfl)
theorem gc_LT_leastFreeNode : Cond.code y_LT_leastFreeNode b_LT_leastFreeNode 2 (some (.object "LinkTree$Node")) ∈ lk_G := lk_inG4 (List.mem_of_getElem? (i := 24) rfl)
theorem gm_LT_219 : Cond.methodLink R_LT 219 y_ND_insert ∈ lk_G := lk_inG4 (List.mem_of_getElem? (i := 25) rfl)
theorem gi_ND_insert : Cond.instanceMethod y_ND_insert ∈ lk_G := lk_inG4 (List.mem_of_getElem? (i := 26) rfl)
theorem gs_ND_insert : Cond.selects R_ND y_ND_insert y_ND_insert ∈ lk_G := lk_inG4 (List.mem_of_getElem? (i := 27) rfl)
theorem gc_ND_insert : Cond.code y_ND_insert b_ND_insert 5 none ∈ lk_G := lk_inG4 (List.mem_of_getElem? (i := 28) rfl)
theorem gm_LT_212 : Cond.methodLink R_LT 212 y_ND_valueOf ∈ lk_G := lk_inG4 (List.mem_of_getElem? (i := 29) rfl)
theorem gi_ND_valueOf : Cond.instanceMethod y_ND_valueOf ∈ lk_G := lk_inG4 (List.mem_of_getElem? (i := 30) rfl)
theorem gs_ND_valueOf : Cond.selects R_ND y_ND_valueOf y_ND_valueOf ∈ lk_G := lk_inG4 (List.mem_of_getElem? (i := 31) rfl)
theorem gc_ND_valueOf : Cond.code y_ND_valueOf b_ND_valueOf 3 (some (.int)) ∈ lk_G := lk_inG4 (List.mem_of_getElem? (i := 32) rfl)
theorem gm_ND_47 : Cond.methodLink R_ND 47 y_ND_hasKeyAt ∈ lk_G := lk_inG4 (List.mem_of_getElem? (i := 33) rfl)
theorem gi_ND_hasKeyAt : Cond.instanceMethod y_ND_hasKeyAt ∈ lk_G := lk_inG4 (List.mem_of_getElem? (i := 34) rfl)
theorem gs_ND_hasKeyAt : Cond.selects R_ND y_ND_hasKeyAt y_ND_hasKeyAt ∈ lk_G := lk_inG4 (List.mem_of_getElem? (i := 35) rfl)
theorem gc_ND_hasKeyAt : Cond.code y_ND_hasKeyAt b_ND_hasKeyAt 3 (some (.boolean)) ∈ lk_G := lk_inG4 (List.mem_of_getElem? (i := 36) rfl)
theorem gm_LT_183 : Cond.methodLink R_LT 183 y_LT_lock ∈ lk_G := lk_inG4 (List.mem_of_getElem? (i := 37) rfl)
theorem gi_LT_lock : Cond.instanceMethod y_LT_lock ∈ lk_G := lk_inG4 (List.mem_of_getElem? (i := 38) rfl)
theorem gc_LT_lock : Cond.code y_LT_lock b_LT_lock 3 (some (.int)) ∈ lk_G := lk_inG4 (List.mem_of_getElem? (i := 39) rfl)
theorem gm_LT_186 : Cond.methodLink R_LT 186 y_LT_hold ∈ lk_G := lk_inG5 (List.mem_of_getElem? (i := 0) rfl)
theorem gi_LT_hold : Cond.instanceMethod y_LT_hold ∈ lk_G := lk_inG5 (List.mem_of_getElem? (i := 1) rfl)
theorem gc_LT_hold : Cond.code y_LT_hold b_LT_hold 4 (some (.int)) ∈ lk_G := lk_inG5 (List.mem_of_getElem? (i := 2) rfl)
theorem gm_LT_224 : Cond.methodLink R_LT 224 y_LT_put ∈ lk_G := lk_inG5 (List.mem_of_getElem? (i := 3) rfl)
theorem gi_LT_put : Cond.instanceMethod y_LT_put ∈ lk_G := lk_inG5 (List.mem_of_getElem? (i := 4) rfl)
theorem gc_LT_put : Cond.code y_LT_put b_LT_put 5 (some (.int)) ∈ lk_G := lk_inG5 (List.mem_of_getElem? (i := 5) rfl)
theorem gm_LT_239 : Cond.methodLink R_LT 239 y_ND_firstNotBelow ∈ lk_G := lk_inG5 (List.mem_of_getElem? (i := 6) rfl)
theorem gm_LT_242 : Cond.methodLink R_LT 242 y_ND_hasKeyAt ∈ lk_G := lk_inG5 (List.mem_of_getElem? (i := 7) rfl)
theorem gm_LT_246 : Cond.methodLink R_LT 246 y_LT_split ∈ lk_G := lk_inG5 (List.mem_of_getElem? (i := 8) rfl)
theorem gi_LT_split : Cond.instanceMethod y_LT_split ∈ lk_G := lk_inG5 (List.mem_of_getElem? (i := 9) rfl)
theorem gc_LT_split : Cond.code y_LT_split b_LT_split 6 none ∈ lk_G := lk_inG5 (List.mem_of_getElem? (i := 10) rfl)
theorem gm_LT_253 : Cond.methodLink R_LT 253 y_TA_notedAt ∈ lk_G := lk_inG5 (List.mem_of_getElem? (i := 11) rfl)
theorem gi_TA_notedAt : Cond.instanceMethod y_TA_notedAt ∈ lk_G := lk_inG5 (List.mem_of_getElem? (i := 12) rfl)
theorem gs_TA_notedAt : Cond.selects R_TA y_TA_notedAt y_TA_notedAt ∈ lk_G := lk_inG5 (List.mem_of_getElem? (i := 13) rfl)
theorem gc_TA_notedAt : Cond.code y_TA_notedAt b_TA_notedAt 2 (some (.int)) ∈ lk_G := lk_inG5 (List.mem_of_getElem? (i := 14) rfl)
theorem gm_LT_227 : Cond.methodLink R_LT 227 y_LT_remove ∈ lk_G := lk_inG5 (List.mem_of_getElem? (i := 15) rfl)
theorem gi_LT_remove : Cond.instanceMethod y_LT_remove ∈ lk_G := lk_inG5 (List.mem_of_getElem? (i := 16) rfl)
theorem gc_LT_remove : Cond.code y_LT_remove b_LT_remove 5 (some (.int)) ∈ lk_G := lk_inG5 (List.mem_of_getElem? (i := 17) rfl)
theorem gm_LT_256 : Cond.methodLink R_LT 256 y_ND_delete ∈ lk_G := lk_inG5 (List.mem_of_getElem? (i := 18) rfl)
theorem gi_ND_delete : Cond.instanceMethod y_ND_delete ∈ lk_G := lk_inG5 (List.mem_of_getElem? (i := 19) rfl)
theorem gs_ND_delete : Cond.selects R_ND y_ND_delete y_ND_delete ∈ lk_G := lk_inG5 (List.mem_of_getElem? (i := 20) rfl)
theorem gc_ND_delete : Cond.code y_ND_delete b_ND_delete 3 none ∈ lk_G := lk_inG5 (List.mem_of_getElem? (i := 21) rfl)
theorem gm_LT_259 : Cond.methodLink R_LT 259 y_SP_add ∈ lk_G := lk_inG5 (List.mem_of_getElem? (i := 22) rfl)
theorem gi_SP_add : Cond.instanceMethod y_SP_add ∈ lk_G := lk_inG5 (List.mem_of_getElem? (i := 23) rfl)
theorem gs_SP_add : Cond.selects R_SP y_SP_add y_SP_add ∈ lk_G := lk_inG5 (List.mem_of_getElem? (i := 24) rfl)
theorem gc_SP_add : Cond.code y_SP_add b_SP_add 2 none ∈ lk_G := lk_inG5 (List.mem_of_getElem? (i := 25) rfl)
theorem gm_SP_19 : Cond.methodLink R_SP 19 y_SP_has ∈ lk_G := lk_inG5 (List.mem_of_getElem? (i := 26) rfl)
theorem gi_SP_has : Cond.instanceMethod y_SP_has ∈ lk_G := lk_inG5 (List.mem_of_getElem? (i := 27) rfl)
theorem gc_SP_has : Cond.code y_SP_has b_SP_has 3 (some (.boolean)) ∈ lk_G := lk_inG5 (List.mem_of_getElem? (i := 28) rfl)
theorem gm_LT_230 : Cond.methodLink R_LT 230 y_LT_join ∈ lk_G := lk_inG5 (List.mem_of_getElem? (i := 29) rfl)
theorem gi_LT_join : Cond.instanceMethod y_LT_join ∈ lk_G := lk_inG5 (List.mem_of_getElem? (i := 30) rfl)
theorem gc_LT_join : Cond.code y_LT_join b_LT_join 7 (some (.int)) ∈ lk_G := lk_inG5 (List.mem_of_getElem? (i := 31) rfl)
theorem gm_LT_262 : Cond.methodLink R_LT 262 y_ND_entryOfChild ∈ lk_G := lk_inG5 (List.mem_of_getElem? (i := 32) rfl)
theorem gi_ND_entryOfChild : Cond.instanceMethod y_ND_entryOfChild ∈ lk_G := lk_inG5 (List.mem_of_getElem? (i := 33) rfl)
theorem gs_ND_entryOfChild : Cond.selects R_ND y_ND_entryOfChild y_ND_entryOfChild ∈ lk_G := lk_inG5 (List.mem_of_getElem? (i := 34) rfl)
theorem gc_ND_entryOfChild : Cond.code y_ND_entryOfChild b_ND_entryOfChild 3 (some (.int)) ∈ lk_G := lk_inG5 (List.mem_of_getElem? (i := 35) rfl)
theorem gm_LT_265 : Cond.methodLink R_LT 265 y_ND_takeAllOf ∈ lk_G := lk_inG5 (List.mem_of_getElem? (i := 36) rfl)
theorem gi_ND_takeAllOf : Cond.instanceMethod y_ND_takeAllOf ∈ lk_G := lk_inG5 (List.mem_of_getElem? (i := 37) rfl)
theorem gs_ND_takeAllOf : Cond.selects R_ND y_ND_takeAllOf y_ND_takeAllOf ∈ lk_G := lk_inG5 (List.mem_of_getElem? (i := 38) rfl)
theorem gc_ND_takeAllOf : Cond.code y_ND_takeAllOf b_ND_takeAllOf 2 none ∈ lk_G := lk_inG5 (List.mem_of_getElem? (i := 39) rfl)
theorem gm_ND_55 : Cond.methodLink R_ND 55 y_ND_moveFirstOf ∈ lk_G := lk_inG6 (List.mem_of_getElem? (i := 0) rfl)
theorem gi_ND_moveFirstOf : Cond.instanceMethod y_ND_moveFirstOf ∈ lk_G := lk_inG6 (List.mem_of_getElem? (i := 1) rfl)
theorem gc_ND_moveFirstOf : Cond.code y_ND_moveFirstOf b_ND_moveFirstOf 4 none ∈ lk_G := lk_inG6 (List.mem_of_getElem? (i := 2) rfl)
theorem gm_ND_51 : Cond.methodLink R_ND 51 y_ND_insert ∈ lk_G := lk_inG6 (List.mem_of_getElem? (i := 3) rfl)
theorem gm_ND_62 : Cond.methodLink R_ND 62 y_ND_delete ∈ lk_G := lk_inG6 (List.mem_of_getElem? (i := 4) rfl)
theorem gm_LT_269 : Cond.methodLink R_LT 269 y_LT_die ∈ lk_G := lk_inG6 (List.mem_of_getElem? (i := 5) rfl)
theorem gi_LT_die : Cond.instanceMethod y_LT_die ∈ lk_G := lk_inG6 (List.mem_of_getElem? (i := 6) rfl)
theorem gc_LT_die : Cond.code y_LT_die b_LT_die 5 none ∈ lk_G := lk_inG6 (List.mem_of_getElem? (i := 7) rfl)
theorem gm_LT_279 : Cond.methodLink R_LT 279 y_SP_drop ∈ lk_G := lk_inG6 (List.mem_of_getElem? (i := 8) rfl)
theorem gm_LT_282 : Cond.methodLink R_LT 282 y_ND_dieUntil ∈ lk_G := lk_inG6 (List.mem_of_getElem? (i := 9) rfl)
theorem gm_LT_273 : Cond.methodLink R_LT 273 y_ND_shareWith ∈ lk_G := lk_inG6 (List.mem_of_getElem? (i := 10) rfl)
theorem gi_ND_shareWith : Cond.instanceMethod y_ND_shareWith ∈ lk_G := lk_inG6 (List.mem_of_getElem? (i := 11) rfl)
theorem gs_ND_shareWith : Cond.selects R_ND y_ND_shareWith y_ND_shareWith ∈ lk_G := lk_inG6 (List.mem_of_getElem? (i := 12) rfl)
theorem gc_ND_shareWith : Cond.code y_ND_shareWith b_ND_shareWith 3 none ∈ lk_G := lk_inG6 (List.mem_of_getElem? (i := 13) rfl)
theorem gm_ND_59 : Cond.methodLink R_ND 59 y_ND_moveLastTo ∈ lk_G := lk_inG6 (List.mem_of_getElem? (i := 14) rfl)
theorem gi_ND_moveLastTo : Cond.instanceMethod y_ND_moveLastTo ∈ lk_G := lk_inG6 (List.mem_of_getElem? (i := 15) rfl)
theorem gc_ND_moveLastTo : Cond.code y_ND_moveLastTo b_ND_moveLastTo 4 none ∈ lk_G := lk_inG6 (List.mem_of_getElem? (i := 16) rfl)
theorem gm_LT_276 : Cond.methodLink R_LT 276 y_LT_lowerOrQueue ∈ lk_G := lk_inG6 (List.mem_of_getElem? (i := 17) rfl)
theorem gi_LT_lowerOrQueue : Cond.instanceMethod y_LT_lowerOrQueue ∈ lk_G := lk_inG6 (List.mem_of_getElem? (i := 18) rfl)
theorem gc_LT_lowerOrQueue : Cond.code y_LT_lowerOrQueue b_LT_lowerOrQueue 3 none ∈ lk_G := lk_inG6 (List.mem_of_getElem? (i := 19) rfl)
theorem gm_LT_233 : Cond.methodLink R_LT 233 y_LT_post ∈ lk_G := lk_inG6 (List.mem_of_getElem? (i := 20) rfl)
theorem gi_LT_post : Cond.instanceMethod y_LT_post ∈ lk_G := lk_inG6 (List.mem_of_getElem? (i := 21) rfl)
theorem gc_LT_post : Cond.code y_LT_post b_LT_post 4 (some (.int)) ∈ lk_G := lk_inG6 (List.mem_of_getElem? (i := 22) rfl)
theorem gm_LT_250 : Cond.methodLink R_LT 250 y_ND_divideEntry ∈ lk_G := lk_inG6 (List.mem_of_getElem? (i := 23) rfl)
theorem gi_ND_divideEntry : Cond.instanceMethod y_ND_divideEntry ∈ lk_G := lk_inG6 (List.mem_of_getElem? (i := 24) rfl)
theorem gs_ND_divideEntry : Cond.selects R_ND y_ND_divideEntry y_ND_divideEntry ∈ lk_G := lk_inG6 (List.mem_of_getElem? (i := 25) rfl)
theorem gc_ND_divideEntry : Cond.code y_ND_divideEntry b_ND_divideEntry 4 none ∈ lk_G := lk_inG6 (List.mem_of_getElem? (i := 26) rfl)
theorem gm_LW_58 : Cond.methodLink R_LW 58 y_LW_answer ∈ lk_G := lk_inG6 (List.mem_of_getElem? (i := 27) rfl)
theorem gt_LW_answer : Cond.static y_LW_answer ∈ lk_G := lk_inG6 (List.mem_of_getElem? (i := 28) rfl)
theorem gk_LW_24 : Cond.classLink R_LW 24 "java/util/NoSuchElementException" ∈ lk_G := lk_inG6 (List.mem_of_getElem? (i := 29) rfl)
theorem gm_LW_21 : Cond.methodLink R_LW 21 y_LT_answer ∈ lk_G := lk_inG6 (List.mem_of_getElem? (i := 30) rfl)
theorem gi_LT_answer : Cond.instanceMethod y_LT_answer ∈ lk_G := lk_inG6 (List.mem_of_getElem? (i := 31) rfl)
theorem gs_LT_answer : Cond.selects R_LT y_LT_answer y_LT_answer ∈ lk_G := lk_inG6 (List.mem_of_getElem? (i := 32) rfl)
theorem gc_LT_answer : Cond.code y_LT_answer b_LT_answer 3 (some (.int)) ∈ lk_G := lk_inG6 (List.mem_of_getElem? (i := 33) rfl)
theorem gk_LT_105 : Cond.classLink R_LT 105 "java/util/NoSuchElementException" ∈ lk_G := lk_inG6 (List.mem_of_getElem? (i := 34) rfl)
theorem gm_LW_61 : Cond.methodLink R_LW 61 y_LW_look ∈ lk_G := lk_inG6 (List.mem_of_getElem? (i := 35) rfl)
theorem gt_LW_look : Cond.static y_LW_look ∈ lk_G := lk_inG6 (List.mem_of_getElem? (i := 36) rfl)
theorem gm_LW_26 : Cond.methodLink R_LW 26 y_LT_look ∈ lk_G := lk_inG6 (List.mem_of_getElem? (i := 37) rfl)
theorem gi_LT_look : Cond.instanceMethod y_LT_look ∈ lk_G := lk_inG6 (List.mem_of_getElem? (i := 38) rfl)
theorem gs_LT_look : Cond.selects R_LT y_LT_look y_LT_look ∈ lk_G := lk_inG6 (List.mem_of_getElem? (i := 39) rfl)
theorem gc_LT_look : Cond.code y_LT_look b_LT_look 4 (some (.int)) ∈ lk_G := lk_inG7 (List.mem_of_getElem? (i := 0) rfl)
theorem gm_LW_65 : Cond.methodLink R_LW 65 y_LW_page ∈ lk_G := lk_inG7 (List.mem_of_getElem? (i := 1) rfl)
theorem gt_LW_page : Cond.static y_LW_page ∈ lk_G := lk_inG7 (List.mem_of_getElem? (i := 2) rfl)
theorem gm_LW_30 : Cond.methodLink R_LW 30 y_LT_page ∈ lk_G := lk_inG7 (List.mem_of_getElem? (i := 3) rfl)
theorem gi_LT_page : Cond.instanceMethod y_LT_page ∈ lk_G := lk_inG7 (List.mem_of_getElem? (i := 4) rfl)
theorem gs_LT_page : Cond.selects R_LT y_LT_page y_LT_page ∈ lk_G := lk_inG7 (List.mem_of_getElem? (i := 5) rfl)
theorem gc_LT_page : Cond.code y_LT_page b_LT_page 4 (some (.int)) ∈ lk_G := lk_inG7 (List.mem_of_getElem? (i := 6) rfl)
theorem gm_LW_68 : Cond.methodLink R_LW 68 y_LW_entry ∈ lk_G := lk_inG7 (List.mem_of_getElem? (i := 7) rfl)
theorem gt_LW_entry : Cond.static y_LW_entry ∈ lk_G := lk_inG7 (List.mem_of_getElem? (i := 8) rfl)
theorem gm_LW_33 : Cond.methodLink R_LW 33 y_LT_entry ∈ lk_G := lk_inG7 (List.mem_of_getElem? (i := 9) rfl)
theorem gi_LT_entry : Cond.instanceMethod y_LT_entry ∈ lk_G := lk_inG7 (List.mem_of_getElem? (i := 10) rfl)
theorem gs_LT_entry : Cond.selects R_LT y_LT_entry y_LT_entry ∈ lk_G := lk_inG7 (List.mem_of_getElem? (i := 11) rfl)
theorem gc_LT_entry : Cond.code y_LT_entry b_LT_entry 5 (some (.int)) ∈ lk_G := lk_inG7 (List.mem_of_getElem? (i := 12) rfl)
theorem gm_LW_80 : Cond.methodLink R_LW 80 y_LW_under ∈ lk_G := lk_inG7 (List.mem_of_getElem? (i := 13) rfl)
theorem gt_LW_under : Cond.static y_LW_under ∈ lk_G := lk_inG7 (List.mem_of_getElem? (i := 14) rfl)
theorem gm_LW_37 : Cond.methodLink R_LW 37 y_LT_under ∈ lk_G := lk_inG7 (List.mem_of_getElem? (i := 15) rfl)
theorem gi_LT_under : Cond.instanceMethod y_LT_under ∈ lk_G := lk_inG7 (List.mem_of_getElem? (i := 16) rfl)
theorem gs_LT_under : Cond.selects R_LT y_LT_under y_LT_under ∈ lk_G := lk_inG7 (List.mem_of_getElem? (i := 17) rfl)
theorem gc_LT_under : Cond.code y_LT_under b_LT_under 3 (some (.int)) ∈ lk_G := lk_inG7 (List.mem_of_getElem? (i := 18) rfl)
theorem gm_LT_164 : Cond.methodLink R_LT 164 y_LT_leafEntries ∈ lk_G := lk_inG7 (List.mem_of_getElem? (i := 19) rfl)
theorem gi_LT_leafEntries : Cond.instanceMethod y_LT_leafEntries ∈ lk_G := lk_inG7 (List.mem_of_getElem? (i := 20) rfl)
theorem gc_LT_leafEntries : Cond.code y_LT_leafEntries b_LT_leafEntries 5 (some (.int)) ∈ lk_G := lk_inG7 (List.mem_of_getElem? (i := 21) rfl)
theorem gk_LW_41 : Cond.classLink R_LW 41 R_MO ∈ lk_G := lk_inG7 (List.mem_of_getElem? (i := 22) rfl)
theorem ga_MO : Cond.instantiable R_MO 27 ∈ lk_G := lk_inG7 (List.mem_of_getElem? (i := 23) rfl)
theorem gm_LW_43 : Cond.methodLink R_LW 43 y_MO_init ∈ lk_G := lk_inG7 (List.mem_of_getElem? (i := 24) rfl)
theorem gi_MO_init : Cond.instanceMethod y_MO_init ∈ lk_G := lk_inG7 (List.mem_of_getElem? (i := 25) rfl)
theorem gc_MO_init : Cond.code y_MO_init b_MO_init 2 none ∈ lk_G := lk_inG7 (List.mem_of_getElem? (i := 26) rfl)
theorem gm_MO_1 : Cond.methodLink R_MO 1 objectInit ∈ lk_G := lk_inG7 (List.mem_of_getElem? (i := 27) rfl)
theorem gf_MO_83 : Cond.fieldLink R_MO 83 "LinkTreeModel" "thrown" "I" ∈ lk_G := lk_inG7 (List.mem_of_getElem? (i := 28) rfl)
theorem gf_MO_7 : Cond.fieldLink R_MO 7 "LinkTreeModel" "kind" "[I" ∈ lk_G := lk_inG7 (List.mem_of_getElem? (i := 29) rfl)
theorem gf_MO_13 : Cond.fieldLink R_MO 13 "LinkTreeModel" "level" "[I" ∈ lk_G := lk_inG7 (List.mem_of_getElem? (i := 30) rfl)
theorem gf_MO_16 : Cond.fieldLink R_MO 16 "LinkTreeModel" "low" "[I" ∈ lk_G := lk_inG7 (List.mem_of_getElem? (i := 31) rfl)
theorem gf_MO_19 : Cond.fieldLink R_MO 19 "LinkTreeModel" "high" "[I" ∈ lk_G := lk_inG7 (List.mem_of_getElem? (i := 32) rfl)
theorem gf_MO_22 : Cond.fieldLink R_MO 22 "LinkTreeModel" "right" "[I" ∈ lk_G := lk_inG7 (List.mem_of_getElem? (i := 33) rfl)
theorem gf_MO_25 : Cond.fieldLink R_MO 25 "LinkTreeModel" "count" "[I" ∈ lk_G := lk_inG7 (List.mem_of_getElem? (i := 34) rfl)
theorem gf_MO_28 : Cond.fieldLink R_MO 28 "LinkTreeModel" "owner" "[I" ∈ lk_G := lk_inG7 (List.mem_of_getElem? (i := 35) rfl)
theorem gf_MO_31 : Cond.fieldLink R_MO 31 "LinkTreeModel" "first" "[I" ∈ lk_G := lk_inG7 (List.mem_of_getElem? (i := 36) rfl)
theorem gf_MO_34 : Cond.fieldLink R_MO 34 "LinkTreeModel" "second" "[I" ∈ lk_G := lk_inG7 (List.mem_of_getElem? (i := 37) rfl)
theorem gf_MO_37 : Cond.fieldLink R_MO 37 "LinkTreeModel" "awaited" "[I" ∈ lk_G := lk_inG7 (List.mem_of_getElem? (i := 38) rfl)
theorem gf_MO_108 : Cond.fieldLink R_MO 108 "LinkTreeModel" "root" "I" ∈ lk_G := lk_inG7 (List.mem_of_getElem? (i := 39) rfl)
theorem gf_MO_91 : Cond.fieldLink R_MO 91 "LinkTreeModel" "queued" "I" ∈ lk_G := lk_inG8 (List.mem_of_getElem? (i := 0) rfl)
theorem gf_MO_40 : Cond.fieldLink R_MO 40 "LinkTreeModel" "queue" "[I" ∈ lk_G := lk_inG8 (List.mem_of_getElem? (i := 1) rfl)
theorem gf_MO_43 : Cond.fieldLink R_MO 43 "LinkTreeModel" "busy" "[Z" ∈ lk_G := lk_inG8 (List.mem_of_getElem? (i := 2) rfl)
theorem gf_MO_47 : Cond.fieldLink R_MO 47 "LinkTreeModel" "operation" "[I" ∈ lk_G := lk_inG8 (List.mem_of_getElem? (i := 3) rfl)
theorem gf_MO_50 : Cond.fieldLink R_MO 50 "LinkTreeModel" "phase" "[I" ∈ lk_G := lk_inG8 (List.mem_of_getElem? (i := 4) rfl)
theorem gf_MO_53 : Cond.fieldLink R_MO 53 "LinkTreeModel" "place" "[I" ∈ lk_G := lk_inG8 (List.mem_of_getElem? (i := 5) rfl)
theorem gf_MO_56 : Cond.fieldLink R_MO 56 "LinkTreeModel" "key" "[I" ∈ lk_G := lk_inG8 (List.mem_of_getElem? (i := 6) rfl)
theorem gf_MO_59 : Cond.fieldLink R_MO 59 "LinkTreeModel" "want" "[I" ∈ lk_G := lk_inG8 (List.mem_of_getElem? (i := 7) rfl)
theorem gf_MO_62 : Cond.fieldLink R_MO 62 "LinkTreeModel" "given" "[I" ∈ lk_G := lk_inG8 (List.mem_of_getElem? (i := 8) rfl)
theorem gf_MO_65 : Cond.fieldLink R_MO 65 "LinkTreeModel" "about" "[I" ∈ lk_G := lk_inG8 (List.mem_of_getElem? (i := 9) rfl)
theorem gf_MO_68 : Cond.fieldLink R_MO 68 "LinkTreeModel" "path" "[I" ∈ lk_G := lk_inG8 (List.mem_of_getElem? (i := 10) rfl)
theorem gf_MO_71 : Cond.fieldLink R_MO 71 "LinkTreeModel" "answered" "[Z" ∈ lk_G := lk_inG8 (List.mem_of_getElem? (i := 11) rfl)
theorem gf_MO_74 : Cond.fieldLink R_MO 74 "LinkTreeModel" "answers" "[I" ∈ lk_G := lk_inG8 (List.mem_of_getElem? (i := 12) rfl)
theorem gf_MO_77 : Cond.fieldLink R_MO 77 "LinkTreeModel" "counts" "[I" ∈ lk_G := lk_inG8 (List.mem_of_getElem? (i := 13) rfl)
theorem gf_MO_80 : Cond.fieldLink R_MO 80 "LinkTreeModel" "open" "[I" ∈ lk_G := lk_inG8 (List.mem_of_getElem? (i := 14) rfl)
theorem gA_boolean : Cond.arrayClass .boolean ∈ lk_G := lk_inG8 (List.mem_of_getElem? (i := 15) rfl)
theorem gm_LW_50 : Cond.methodLink R_LW 50 y_MO_thrown ∈ lk_G := lk_inG8 (List.mem_of_getElem? (i := 16) rfl)
theorem gi_MO_thrown : Cond.instanceMethod y_MO_thrown ∈ lk_G := lk_inG8 (List.mem_of_getElem? (i := 17) rfl)
theorem gs_MO_thrown : Cond.selects R_MO y_MO_thrown y_MO_thrown ∈ lk_G := lk_inG8 (List.mem_of_getElem? (i := 18) rfl)
theorem gc_MO_thrown : Cond.code y_MO_thrown b_MO_thrown 1 (some (.int)) ∈ lk_G := lk_inG8 (List.mem_of_getElem? (i := 19) rfl)
theorem gm_LW_49 : Cond.methodLink R_LW 49 y_MO_begin ∈ lk_G := lk_inG8 (List.mem_of_getElem? (i := 20) rfl)
theorem gi_MO_begin : Cond.instanceMethod y_MO_begin ∈ lk_G := lk_inG8 (List.mem_of_getElem? (i := 21) rfl)
theorem gs_MO_begin : Cond.selects R_MO y_MO_begin y_MO_begin ∈ lk_G := lk_inG8 (List.mem_of_getElem? (i := 22) rfl)
theorem gc_MO_begin : Cond.code y_MO_begin b_MO_begin 5 none ∈ lk_G := lk_inG8 (List.mem_of_getElem? (i := 23) rfl)
theorem gm_MO_115 : Cond.methodLink R_MO 115 y_MO_isTask ∈ lk_G := lk_inG8 (List.mem_of_getElem? (i := 24) rfl)
theorem gi_MO_isTask : Cond.instanceMethod y_MO_isTask ∈ lk_G := lk_inG8 (List.mem_of_getElem? (i := 25) rfl)
theorem gc_MO_isTask : Cond.code y_MO_isTask b_MO_isTask 2 (some (.boolean)) ∈ lk_G := lk_inG8 (List.mem_of_getElem? (i := 26) rfl)
theorem gm_MO_101 : Cond.methodLink R_MO 101 y_MO_within ∈ lk_G := lk_inG8 (List.mem_of_getElem? (i := 27) rfl)
theorem gt_MO_within : Cond.static y_MO_within ∈ lk_G := lk_inG8 (List.mem_of_getElem? (i := 28) rfl)
theorem gc_MO_within : Cond.code y_MO_within b_MO_within 3 (some (.boolean)) ∈ lk_G := lk_inG8 (List.mem_of_getElem? (i := 29) rfl)
theorem gm_MO_119 : Cond.methodLink R_MO 119 y_MO_fails ∈ lk_G := lk_inG8 (List.mem_of_getElem? (i := 30) rfl)
theorem gi_MO_fails : Cond.instanceMethod y_MO_fails ∈ lk_G := lk_inG8 (List.mem_of_getElem? (i := 31) rfl)
theorem gc_MO_fails : Cond.code y_MO_fails b_MO_fails 3 (some (.boolean)) ∈ lk_G := lk_inG8 (List.mem_of_getElem? (i := 32) rfl)
theorem gm_MO_105 : Cond.methodLink R_MO 105 y_MO_forgetPath ∈ lk_G := lk_inG8 (List.mem_of_getElem? (i := 33) rfl)
theorem gi_MO_forgetPath : Cond.instanceMethod y_MO_forgetPath ∈ lk_G := lk_inG8 (List.mem_of_getElem? (i := 34) rfl)
theorem gc_MO_forgetPath : Cond.code y_MO_forgetPath b_MO_forgetPath 3 none ∈ lk_G := lk_inG8 (List.mem_of_getElem? (i := 35) rfl)
theorem gm_MO_111 : Cond.methodLink R_MO 111 y_MO_search ∈ lk_G := lk_inG8 (List.mem_of_getElem? (i := 36) rfl)
theorem gi_MO_search : Cond.instanceMethod y_MO_search ∈ lk_G := lk_inG8 (List.mem_of_getElem? (i := 37) rfl)
theorem gc_MO_search : Cond.code y_MO_search b_MO_search 3 none ∈ lk_G := lk_inG8 (List.mem_of_getElem? (i := 38) rfl)
theorem gm_MO_123 : Cond.methodLink R_MO 123 y_MO_beginJoin ∈ lk_G := lk_inG8 (List.mem_of_getElem? (i := 39) rfl)
theorem gi_MO_beginJoin : Cond.instanceMethod y_MO_beginJoin ∈ lk_G := lk_inG9 (List.mem_of_getElem? (i := 0) rfl)
theorem gc_MO_beginJoin : Cond.code y_MO_beginJoin b_MO_beginJoin 3 none ∈ lk_G := lk_inG9 (List.mem_of_getElem? (i := 1) rfl)
theorem gm_MO_94 : Cond.methodLink R_MO 94 y_MO_leaveQueue ∈ lk_G := lk_inG9 (List.mem_of_getElem? (i := 2) rfl)
theorem gi_MO_leaveQueue : Cond.instanceMethod y_MO_leaveQueue ∈ lk_G := lk_inG9 (List.mem_of_getElem? (i := 3) rfl)
theorem gc_MO_leaveQueue : Cond.code y_MO_leaveQueue b_MO_leaveQueue 4 none ∈ lk_G := lk_inG9 (List.mem_of_getElem? (i := 4) rfl)
theorem gm_LW_57 : Cond.methodLink R_LW 57 y_MO_step ∈ lk_G := lk_inG9 (List.mem_of_getElem? (i := 5) rfl)
theorem gi_MO_step : Cond.instanceMethod y_MO_step ∈ lk_G := lk_inG9 (List.mem_of_getElem? (i := 6) rfl)
theorem gs_MO_step : Cond.selects R_MO y_MO_step y_MO_step ∈ lk_G := lk_inG9 (List.mem_of_getElem? (i := 7) rfl)
theorem gc_MO_step : Cond.code y_MO_step b_MO_step 3 (some (.int)) ∈ lk_G := lk_inG9 (List.mem_of_getElem? (i := 8) rfl)
theorem gm_MO_170 : Cond.methodLink R_MO 170 y_MO_searches ∈ lk_G := lk_inG9 (List.mem_of_getElem? (i := 9) rfl)
theorem gi_MO_searches : Cond.instanceMethod y_MO_searches ∈ lk_G := lk_inG9 (List.mem_of_getElem? (i := 10) rfl)
theorem gc_MO_searches : Cond.code y_MO_searches b_MO_searches 3 (some (.int)) ∈ lk_G := lk_inG9 (List.mem_of_getElem? (i := 11) rfl)
theorem gm_MO_126 : Cond.methodLink R_MO 126 y_MO_finish ∈ lk_G := lk_inG9 (List.mem_of_getElem? (i := 12) rfl)
theorem gi_MO_finish : Cond.instanceMethod y_MO_finish ∈ lk_G := lk_inG9 (List.mem_of_getElem? (i := 13) rfl)
theorem gc_MO_finish : Cond.code y_MO_finish b_MO_finish 4 (some (.int)) ∈ lk_G := lk_inG9 (List.mem_of_getElem? (i := 14) rfl)
theorem gm_MO_98 : Cond.methodLink R_MO 98 y_MO_release ∈ lk_G := lk_inG9 (List.mem_of_getElem? (i := 15) rfl)
theorem gi_MO_release : Cond.instanceMethod y_MO_release ∈ lk_G := lk_inG9 (List.mem_of_getElem? (i := 16) rfl)
theorem gc_MO_release : Cond.code y_MO_release b_MO_release 2 none ∈ lk_G := lk_inG9 (List.mem_of_getElem? (i := 17) rfl)
theorem gm_MO_129 : Cond.methodLink R_MO 129 y_MO_isLost ∈ lk_G := lk_inG9 (List.mem_of_getElem? (i := 18) rfl)
theorem gi_MO_isLost : Cond.instanceMethod y_MO_isLost ∈ lk_G := lk_inG9 (List.mem_of_getElem? (i := 19) rfl)
theorem gc_MO_isLost : Cond.code y_MO_isLost b_MO_isLost 3 (some (.boolean)) ∈ lk_G := lk_inG9 (List.mem_of_getElem? (i := 20) rfl)
theorem gm_MO_132 : Cond.methodLink R_MO 132 y_MO_restart ∈ lk_G := lk_inG9 (List.mem_of_getElem? (i := 21) rfl)
theorem gi_MO_restart : Cond.instanceMethod y_MO_restart ∈ lk_G := lk_inG9 (List.mem_of_getElem? (i := 22) rfl)
theorem gc_MO_restart : Cond.code y_MO_restart b_MO_restart 2 (some (.int)) ∈ lk_G := lk_inG9 (List.mem_of_getElem? (i := 23) rfl)
theorem gm_MO_136 : Cond.methodLink R_MO 136 y_MO_goRight ∈ lk_G := lk_inG9 (List.mem_of_getElem? (i := 24) rfl)
theorem gi_MO_goRight : Cond.instanceMethod y_MO_goRight ∈ lk_G := lk_inG9 (List.mem_of_getElem? (i := 25) rfl)
theorem gc_MO_goRight : Cond.code y_MO_goRight b_MO_goRight 2 none ∈ lk_G := lk_inG9 (List.mem_of_getElem? (i := 26) rfl)
theorem gm_MO_87 : Cond.methodLink R_MO 87 y_MO_from ∈ lk_G := lk_inG9 (List.mem_of_getElem? (i := 27) rfl)
theorem gi_MO_from : Cond.instanceMethod y_MO_from ∈ lk_G := lk_inG9 (List.mem_of_getElem? (i := 28) rfl)
theorem gc_MO_from : Cond.code y_MO_from b_MO_from 4 (some (.int)) ∈ lk_G := lk_inG9 (List.mem_of_getElem? (i := 29) rfl)
theorem gm_MO_139 : Cond.methodLink R_MO 139 y_MO_rises ∈ lk_G := lk_inG9 (List.mem_of_getElem? (i := 30) rfl)
theorem gi_MO_rises : Cond.instanceMethod y_MO_rises ∈ lk_G := lk_inG9 (List.mem_of_getElem? (i := 31) rfl)
theorem gc_MO_rises : Cond.code y_MO_rises b_MO_rises 3 (some (.int)) ∈ lk_G := lk_inG9 (List.mem_of_getElem? (i := 32) rfl)
theorem gm_MO_146 : Cond.methodLink R_MO 146 y_MO_freePage ∈ lk_G := lk_inG9 (List.mem_of_getElem? (i := 33) rfl)
theorem gi_MO_freePage : Cond.instanceMethod y_MO_freePage ∈ lk_G := lk_inG9 (List.mem_of_getElem? (i := 34) rfl)
theorem gc_MO_freePage : Cond.code y_MO_freePage b_MO_freePage 2 (some (.int)) ∈ lk_G := lk_inG9 (List.mem_of_getElem? (i := 35) rfl)
theorem gm_MO_150 : Cond.methodLink R_MO 150 y_MO_make ∈ lk_G := lk_inG9 (List.mem_of_getElem? (i := 36) rfl)
theorem gi_MO_make : Cond.instanceMethod y_MO_make ∈ lk_G := lk_inG9 (List.mem_of_getElem? (i := 37) rfl)
theorem gc_MO_make : Cond.code y_MO_make b_MO_make 6 none ∈ lk_G := lk_inG9 (List.mem_of_getElem? (i := 38) rfl)
theorem gm_MO_154 : Cond.methodLink R_MO 154 y_MO_append ∈ lk_G := lk_inG9 (List.mem_of_getElem? (i := 39) rfl)
theorem gi_MO_append : Cond.instanceMethod y_MO_append ∈ lk_G := lk_inG10 (List.mem_of_getElem? (i := 0) rfl)
theorem gc_MO_append : Cond.code y_MO_append b_MO_append 4 none ∈ lk_G := lk_inG10 (List.mem_of_getElem? (i := 1) rfl)
theorem gm_MO_142 : Cond.methodLink R_MO 142 y_MO_has ∈ lk_G := lk_inG10 (List.mem_of_getElem? (i := 2) rfl)
theorem gi_MO_has : Cond.instanceMethod y_MO_has ∈ lk_G := lk_inG10 (List.mem_of_getElem? (i := 3) rfl)
theorem gc_MO_has : Cond.code y_MO_has b_MO_has 4 (some (.boolean)) ∈ lk_G := lk_inG10 (List.mem_of_getElem? (i := 4) rfl)
theorem gm_MO_173 : Cond.methodLink R_MO 173 y_MO_locks ∈ lk_G := lk_inG10 (List.mem_of_getElem? (i := 5) rfl)
theorem gi_MO_locks : Cond.instanceMethod y_MO_locks ∈ lk_G := lk_inG10 (List.mem_of_getElem? (i := 6) rfl)
theorem gc_MO_locks : Cond.code y_MO_locks b_MO_locks 3 (some (.int)) ∈ lk_G := lk_inG10 (List.mem_of_getElem? (i := 7) rfl)
theorem gm_MO_176 : Cond.methodLink R_MO 176 y_MO_holds ∈ lk_G := lk_inG10 (List.mem_of_getElem? (i := 8) rfl)
theorem gi_MO_holds : Cond.instanceMethod y_MO_holds ∈ lk_G := lk_inG10 (List.mem_of_getElem? (i := 9) rfl)
theorem gc_MO_holds : Cond.code y_MO_holds b_MO_holds 5 (some (.int)) ∈ lk_G := lk_inG10 (List.mem_of_getElem? (i := 10) rfl)
theorem gm_MO_158 : Cond.methodLink R_MO 158 y_MO_puts ∈ lk_G := lk_inG10 (List.mem_of_getElem? (i := 11) rfl)
theorem gi_MO_puts : Cond.instanceMethod y_MO_puts ∈ lk_G := lk_inG10 (List.mem_of_getElem? (i := 12) rfl)
theorem gc_MO_puts : Cond.code y_MO_puts b_MO_puts 5 (some (.int)) ∈ lk_G := lk_inG10 (List.mem_of_getElem? (i := 13) rfl)
theorem gm_MO_179 : Cond.methodLink R_MO 179 y_MO_insert ∈ lk_G := lk_inG10 (List.mem_of_getElem? (i := 14) rfl)
theorem gi_MO_insert : Cond.instanceMethod y_MO_insert ∈ lk_G := lk_inG10 (List.mem_of_getElem? (i := 15) rfl)
theorem gc_MO_insert : Cond.code y_MO_insert b_MO_insert 6 none ∈ lk_G := lk_inG10 (List.mem_of_getElem? (i := 16) rfl)
theorem gm_MO_183 : Cond.methodLink R_MO 183 y_MO_split ∈ lk_G := lk_inG10 (List.mem_of_getElem? (i := 17) rfl)
theorem gi_MO_split : Cond.instanceMethod y_MO_split ∈ lk_G := lk_inG10 (List.mem_of_getElem? (i := 18) rfl)
theorem gc_MO_split : Cond.code y_MO_split b_MO_split 5 none ∈ lk_G := lk_inG10 (List.mem_of_getElem? (i := 19) rfl)
theorem gm_MO_161 : Cond.methodLink R_MO 161 y_MO_posts ∈ lk_G := lk_inG10 (List.mem_of_getElem? (i := 20) rfl)
theorem gi_MO_posts : Cond.instanceMethod y_MO_posts ∈ lk_G := lk_inG10 (List.mem_of_getElem? (i := 21) rfl)
theorem gc_MO_posts : Cond.code y_MO_posts b_MO_posts 4 (some (.int)) ∈ lk_G := lk_inG10 (List.mem_of_getElem? (i := 22) rfl)
theorem gm_MO_164 : Cond.methodLink R_MO 164 y_MO_removes ∈ lk_G := lk_inG10 (List.mem_of_getElem? (i := 23) rfl)
theorem gi_MO_removes : Cond.instanceMethod y_MO_removes ∈ lk_G := lk_inG10 (List.mem_of_getElem? (i := 24) rfl)
theorem gc_MO_removes : Cond.code y_MO_removes b_MO_removes 5 (some (.int)) ∈ lk_G := lk_inG10 (List.mem_of_getElem? (i := 25) rfl)
theorem gm_MO_186 : Cond.methodLink R_MO 186 y_MO_takeOut ∈ lk_G := lk_inG10 (List.mem_of_getElem? (i := 26) rfl)
theorem gi_MO_takeOut : Cond.instanceMethod y_MO_takeOut ∈ lk_G := lk_inG10 (List.mem_of_getElem? (i := 27) rfl)
theorem gc_MO_takeOut : Cond.code y_MO_takeOut b_MO_takeOut 4 none ∈ lk_G := lk_inG10 (List.mem_of_getElem? (i := 28) rfl)
theorem gm_MO_189 : Cond.methodLink R_MO 189 y_MO_comeIntoQueue ∈ lk_G := lk_inG10 (List.mem_of_getElem? (i := 29) rfl)
theorem gi_MO_comeIntoQueue : Cond.instanceMethod y_MO_comeIntoQueue ∈ lk_G := lk_inG10 (List.mem_of_getElem? (i := 30) rfl)
theorem gc_MO_comeIntoQueue : Cond.code y_MO_comeIntoQueue b_MO_comeIntoQueue 4 none ∈ lk_G := lk_inG10 (List.mem_of_getElem? (i := 31) rfl)
theorem gm_MO_167 : Cond.methodLink R_MO 167 y_MO_joins ∈ lk_G := lk_inG10 (List.mem_of_getElem? (i := 32) rfl)
theorem gi_MO_joins : Cond.instanceMethod y_MO_joins ∈ lk_G := lk_inG10 (List.mem_of_getElem? (i := 33) rfl)
theorem gc_MO_joins : Cond.code y_MO_joins b_MO_joins 7 (some (.int)) ∈ lk_G := lk_inG10 (List.mem_of_getElem? (i := 34) rfl)
theorem gm_MO_192 : Cond.methodLink R_MO 192 y_MO_childOf ∈ lk_G := lk_inG10 (List.mem_of_getElem? (i := 35) rfl)
theorem gi_MO_childOf : Cond.instanceMethod y_MO_childOf ∈ lk_G := lk_inG10 (List.mem_of_getElem? (i := 36) rfl)
theorem gc_MO_childOf : Cond.code y_MO_childOf b_MO_childOf 4 (some (.int)) ∈ lk_G := lk_inG10 (List.mem_of_getElem? (i := 37) rfl)
theorem gm_MO_195 : Cond.methodLink R_MO 195 y_MO_balance ∈ lk_G := lk_inG10 (List.mem_of_getElem? (i := 38) rfl)
theorem gi_MO_balance : Cond.instanceMethod y_MO_balance ∈ lk_G := lk_inG10 (List.mem_of_getElem? (i := 39) rfl)
theorem gc_MO_balance : Cond.code y_MO_balance b_MO_balance 5 none ∈ lk_G := lk_inG11 (List.mem_of_getElem? (i := 0) rfl)
theorem gm_MO_198 : Cond.methodLink R_MO 198 y_MO_die ∈ lk_G := lk_inG11 (List.mem_of_getElem? (i := 1) rfl)
theorem gi_MO_die : Cond.instanceMethod y_MO_die ∈ lk_G := lk_inG11 (List.mem_of_getElem? (i := 2) rfl)
theorem gc_MO_die : Cond.code y_MO_die b_MO_die 4 none ∈ lk_G := lk_inG11 (List.mem_of_getElem? (i := 3) rfl)
theorem gm_MO_201 : Cond.methodLink R_MO 201 y_MO_shrinks ∈ lk_G := lk_inG11 (List.mem_of_getElem? (i := 4) rfl)
theorem gi_MO_shrinks : Cond.instanceMethod y_MO_shrinks ∈ lk_G := lk_inG11 (List.mem_of_getElem? (i := 5) rfl)
theorem gc_MO_shrinks : Cond.code y_MO_shrinks b_MO_shrinks 3 none ∈ lk_G := lk_inG11 (List.mem_of_getElem? (i := 6) rfl)
theorem gm_LW_60 : Cond.methodLink R_LW 60 y_MO_answer ∈ lk_G := lk_inG11 (List.mem_of_getElem? (i := 7) rfl)
theorem gi_MO_answer : Cond.instanceMethod y_MO_answer ∈ lk_G := lk_inG11 (List.mem_of_getElem? (i := 8) rfl)
theorem gs_MO_answer : Cond.selects R_MO y_MO_answer y_MO_answer ∈ lk_G := lk_inG11 (List.mem_of_getElem? (i := 9) rfl)
theorem gc_MO_answer : Cond.code y_MO_answer b_MO_answer 2 (some (.int)) ∈ lk_G := lk_inG11 (List.mem_of_getElem? (i := 10) rfl)
theorem gm_LW_64 : Cond.methodLink R_LW 64 y_MO_look ∈ lk_G := lk_inG11 (List.mem_of_getElem? (i := 11) rfl)
theorem gi_MO_look : Cond.instanceMethod y_MO_look ∈ lk_G := lk_inG11 (List.mem_of_getElem? (i := 12) rfl)
theorem gs_MO_look : Cond.selects R_MO y_MO_look y_MO_look ∈ lk_G := lk_inG11 (List.mem_of_getElem? (i := 13) rfl)
theorem gc_MO_look : Cond.code y_MO_look b_MO_look 3 (some (.int)) ∈ lk_G := lk_inG11 (List.mem_of_getElem? (i := 14) rfl)
theorem gm_LW_67 : Cond.methodLink R_LW 67 y_MO_page ∈ lk_G := lk_inG11 (List.mem_of_getElem? (i := 15) rfl)
theorem gi_MO_page : Cond.instanceMethod y_MO_page ∈ lk_G := lk_inG11 (List.mem_of_getElem? (i := 16) rfl)
theorem gs_MO_page : Cond.selects R_MO y_MO_page y_MO_page ∈ lk_G := lk_inG11 (List.mem_of_getElem? (i := 17) rfl)
theorem gc_MO_page : Cond.code y_MO_page b_MO_page 3 (some (.int)) ∈ lk_G := lk_inG11 (List.mem_of_getElem? (i := 18) rfl)
theorem gm_LW_71 : Cond.methodLink R_LW 71 y_MO_entry ∈ lk_G := lk_inG11 (List.mem_of_getElem? (i := 19) rfl)
theorem gi_MO_entry : Cond.instanceMethod y_MO_entry ∈ lk_G := lk_inG11 (List.mem_of_getElem? (i := 20) rfl)
theorem gs_MO_entry : Cond.selects R_MO y_MO_entry y_MO_entry ∈ lk_G := lk_inG11 (List.mem_of_getElem? (i := 21) rfl)
theorem gc_MO_entry : Cond.code y_MO_entry b_MO_entry 4 (some (.int)) ∈ lk_G := lk_inG11 (List.mem_of_getElem? (i := 22) rfl)
theorem gm_MO_204 : Cond.methodLink R_MO 204 y_MO_isNode ∈ lk_G := lk_inG11 (List.mem_of_getElem? (i := 23) rfl)
theorem gi_MO_isNode : Cond.instanceMethod y_MO_isNode ∈ lk_G := lk_inG11 (List.mem_of_getElem? (i := 24) rfl)
theorem gc_MO_isNode : Cond.code y_MO_isNode b_MO_isNode 2 (some (.boolean)) ∈ lk_G := lk_inG11 (List.mem_of_getElem? (i := 25) rfl)
theorem gm_LW_75 : Cond.methodLink R_LW 75 y_MO_root ∈ lk_G := lk_inG11 (List.mem_of_getElem? (i := 26) rfl)
theorem gi_MO_root : Cond.instanceMethod y_MO_root ∈ lk_G := lk_inG11 (List.mem_of_getElem? (i := 27) rfl)
theorem gs_MO_root : Cond.selects R_MO y_MO_root y_MO_root ∈ lk_G := lk_inG11 (List.mem_of_getElem? (i := 28) rfl)
theorem gc_MO_root : Cond.code y_MO_root b_MO_root 1 (some (.int)) ∈ lk_G := lk_inG11 (List.mem_of_getElem? (i := 29) rfl)
theorem gm_LW_79 : Cond.methodLink R_LW 79 y_MO_queued ∈ lk_G := lk_inG11 (List.mem_of_getElem? (i := 30) rfl)
theorem gi_MO_queued : Cond.instanceMethod y_MO_queued ∈ lk_G := lk_inG11 (List.mem_of_getElem? (i := 31) rfl)
theorem gs_MO_queued : Cond.selects R_MO y_MO_queued y_MO_queued ∈ lk_G := lk_inG11 (List.mem_of_getElem? (i := 32) rfl)
theorem gc_MO_queued : Cond.code y_MO_queued b_MO_queued 1 (some (.int)) ∈ lk_G := lk_inG11 (List.mem_of_getElem? (i := 33) rfl)
theorem gm_LW_82 : Cond.methodLink R_LW 82 y_MO_under ∈ lk_G := lk_inG11 (List.mem_of_getElem? (i := 34) rfl)
theorem gi_MO_under : Cond.instanceMethod y_MO_under ∈ lk_G := lk_inG11 (List.mem_of_getElem? (i := 35) rfl)
theorem gs_MO_under : Cond.selects R_MO y_MO_under y_MO_under ∈ lk_G := lk_inG11 (List.mem_of_getElem? (i := 36) rfl)
theorem gc_MO_under : Cond.code y_MO_under b_MO_under 6 (some (.int)) ∈ lk_G := lk_inG11 (List.mem_of_getElem? (i := 37) rfl)
theorem gA_long : Cond.arrayClass .long ∈ lk_G := lk_inG11 (List.mem_of_getElem? (i := 38) rfl)
theorem gs_LT_chooseSmallPage : Cond.selects R_LT y_LT_chooseSmallPage y_LT_chooseSmallPage ∈ lk_G := lk_inG11 (List.mem_of_getElem? (i := 39) rfl)
theorem gs_LT_nodeAt : Cond.selects R_LT y_LT_nodeAt y_LT_nodeAt ∈ lk_G := lk_inG12 (List.mem_of_getElem? (i := 0) rfl)
theorem gs_LT_advance : Cond.selects R_LT y_LT_advance y_LT_advance ∈ lk_G := lk_inG12 (List.mem_of_getElem? (i := 1) rfl)
theorem gs_LT_finish : Cond.selects R_LT y_LT_finish y_LT_finish ∈ lk_G := lk_inG12 (List.mem_of_getElem? (i := 2) rfl)
theorem gs_LT_search : Cond.selects R_LT y_LT_search y_LT_search ∈ lk_G := lk_inG12 (List.mem_of_getElem? (i := 3) rfl)
theorem gs_LT_restart : Cond.selects R_LT y_LT_restart y_LT_restart ∈ lk_G := lk_inG12 (List.mem_of_getElem? (i := 4) rfl)
theorem gs_LT_goRight : Cond.selects R_LT y_LT_goRight y_LT_goRight ∈ lk_G := lk_inG12 (List.mem_of_getElem? (i := 5) rfl)
theorem gs_LT_searchBelowWanted : Cond.selects R_LT y_LT_searchBelowWanted y_LT_searchBelowWanted ∈ lk_G := lk_inG12 (List.mem_of_getElem? (i := 6) rfl)
theorem gs_LT_leastFreeNode : Cond.selects R_LT y_LT_leastFreeNode y_LT_leastFreeNode ∈ lk_G := lk_inG12 (List.mem_of_getElem? (i := 7) rfl)
theorem gs_LT_lock : Cond.selects R_LT y_LT_lock y_LT_lock ∈ lk_G := lk_inG12 (List.mem_of_getElem? (i := 8) rfl)
theorem gs_LT_hold : Cond.selects R_LT y_LT_hold y_LT_hold ∈ lk_G := lk_inG12 (List.mem_of_getElem? (i := 9) rfl)
theorem gs_LT_put : Cond.selects R_LT y_LT_put y_LT_put ∈ lk_G := lk_inG12 (List.mem_of_getElem? (i := 10) rfl)
theorem gs_LT_split : Cond.selects R_LT y_LT_split y_LT_split ∈ lk_G := lk_inG12 (List.mem_of_getElem? (i := 11) rfl)
theorem gs_LT_remove : Cond.selects R_LT y_LT_remove y_LT_remove ∈ lk_G := lk_inG12 (List.mem_of_getElem? (i := 12) rfl)
theorem gs_SP_has : Cond.selects R_SP y_SP_has y_SP_has ∈ lk_G := lk_inG12 (List.mem_of_getElem? (i := 13) rfl)
theorem gs_LT_join : Cond.selects R_LT y_LT_join y_LT_join ∈ lk_G := lk_inG12 (List.mem_of_getElem? (i := 14) rfl)
theorem gs_ND_moveFirstOf : Cond.selects R_ND y_ND_moveFirstOf y_ND_moveFirstOf ∈ lk_G := lk_inG12 (List.mem_of_getElem? (i := 15) rfl)
theorem gs_LT_die : Cond.selects R_LT y_LT_die y_LT_die ∈ lk_G := lk_inG12 (List.mem_of_getElem? (i := 16) rfl)
theorem gs_ND_moveLastTo : Cond.selects R_ND y_ND_moveLastTo y_ND_moveLastTo ∈ lk_G := lk_inG12 (List.mem_of_getElem? (i := 17) rfl)
theorem gs_LT_lowerOrQueue : Cond.selects R_LT y_LT_lowerOrQueue y_LT_lowerOrQueue ∈ lk_G := lk_inG12 (List.mem_of_getElem? (i := 18) rfl)
theorem gs_LT_post : Cond.selects R_LT y_LT_post y_LT_post ∈ lk_G := lk_inG12 (List.mem_of_getElem? (i := 19) rfl)
theorem gs_LT_leafEntries : Cond.selects R_LT y_LT_leafEntries y_LT_leafEntries ∈ lk_G := lk_inG12 (List.mem_of_getElem? (i := 20) rfl)
theorem gs_MO_isTask : Cond.selects R_MO y_MO_isTask y_MO_isTask ∈ lk_G := lk_inG12 (List.mem_of_getElem? (i := 21) rfl)
theorem gs_MO_fails : Cond.selects R_MO y_MO_fails y_MO_fails ∈ lk_G := lk_inG12 (List.mem_of_getElem? (i := 22) rfl)
theorem gs_MO_forgetPath : Cond.selects R_MO y_MO_forgetPath y_MO_forgetPath ∈ lk_G := lk_inG12 (List.mem_of_getElem? (i := 23) rfl)
theorem gs_MO_search : Cond.selects R_MO y_MO_search y_MO_search ∈ lk_G := lk_inG12 (List.mem_of_getElem? (i := 24) rfl)
theorem gs_MO_beginJoin : Cond.selects R_MO y_MO_beginJoin y_MO_beginJoin ∈ lk_G := lk_inG12 (List.mem_of_getElem? (i := 25) rfl)
theorem gs_MO_leaveQueue : Cond.selects R_MO y_MO_leaveQueue y_MO_leaveQueue ∈ lk_G := lk_inG12 (List.mem_of_getElem? (i := 26) rfl)
theorem gs_MO_searches : Cond.selects R_MO y_MO_searches y_MO_searches ∈ lk_G := lk_inG12 (List.mem_of_getElem? (i := 27) rfl)
theorem gs_MO_finish : Cond.selects R_MO y_MO_finish y_MO_finish ∈ lk_G := lk_inG12 (List.mem_of_getElem? (i := 28) rfl)
theorem gs_MO_release : Cond.selects R_MO y_MO_release y_MO_release ∈ lk_G := lk_inG12 (List.mem_of_getElem? (i := 29) rfl)
theorem gs_MO_isLost : Cond.selects R_MO y_MO_isLost y_MO_isLost ∈ lk_G := lk_inG12 (List.mem_of_getElem? (i := 30) rfl)
theorem gs_MO_restart : Cond.selects R_MO y_MO_restart y_MO_restart ∈ lk_G := lk_inG12 (List.mem_of_getElem? (i := 31) rfl)
theorem gs_MO_goRight : Cond.selects R_MO y_MO_goRight y_MO_goRight ∈ lk_G := lk_inG12 (List.mem_of_getElem? (i := 32) rfl)
theorem gs_MO_from : Cond.selects R_MO y_MO_from y_MO_from ∈ lk_G := lk_inG12 (List.mem_of_getElem? (i := 33) rfl)
theorem gs_MO_rises : Cond.selects R_MO y_MO_rises y_MO_rises ∈ lk_G := lk_inG12 (List.mem_of_getElem? (i := 34) rfl)
theorem gs_MO_freePage : Cond.selects R_MO y_MO_freePage y_MO_freePage ∈ lk_G := lk_inG12 (List.mem_of_getElem? (i := 35) rfl)
theorem gs_MO_make : Cond.selects R_MO y_MO_make y_MO_make ∈ lk_G := lk_inG12 (List.mem_of_getElem? (i := 36) rfl)
theorem gs_MO_append : Cond.selects R_MO y_MO_append y_MO_append ∈ lk_G := lk_inG12 (List.mem_of_getElem? (i := 37) rfl)
theorem gs_MO_has : Cond.selects R_MO y_MO_has y_MO_has ∈ lk_G := lk_inG12 (List.mem_of_getElem? (i := 38) rfl)
theorem gs_MO_locks : Cond.selects R_MO y_MO_locks y_MO_locks ∈ lk_G := lk_inG12 (List.mem_of_getElem? (i := 39) rfl)
theorem gs_MO_holds : Cond.selects R_MO y_MO_holds y_MO_holds ∈ lk_G := lk_inG13 (List.mem_of_getElem? (i := 0) rfl)
theorem gs_MO_puts : Cond.selects R_MO y_MO_puts y_MO_puts ∈ lk_G := lk_inG13 (List.mem_of_getElem? (i := 1) rfl)
theorem gs_MO_insert : Cond.selects R_MO y_MO_insert y_MO_insert ∈ lk_G := lk_inG13 (List.mem_of_getElem? (i := 2) rfl)
theorem gs_MO_split : Cond.selects R_MO y_MO_split y_MO_split ∈ lk_G := lk_inG13 (List.mem_of_getElem? (i := 3) rfl)
theorem gs_MO_posts : Cond.selects R_MO y_MO_posts y_MO_posts ∈ lk_G := lk_inG13 (List.mem_of_getElem? (i := 4) rfl)
theorem gs_MO_removes : Cond.selects R_MO y_MO_removes y_MO_removes ∈ lk_G := lk_inG13 (List.mem_of_getElem? (i := 5) rfl)
theorem gs_MO_takeOut : Cond.selects R_MO y_MO_takeOut y_MO_takeOut ∈ lk_G := lk_inG13 (List.mem_of_getElem? (i := 6) rfl)
theorem gs_MO_comeIntoQueue : Cond.selects R_MO y_MO_comeIntoQueue y_MO_comeIntoQueue ∈ lk_G := lk_inG13 (List.mem_of_getElem? (i := 7) rfl)
theorem gs_MO_joins : Cond.selects R_MO y_MO_joins y_MO_joins ∈ lk_G := lk_inG13 (List.mem_of_getElem? (i := 8) rfl)
theorem gs_MO_childOf : Cond.selects R_MO y_MO_childOf y_MO_childOf ∈ lk_G := lk_inG13 (List.mem_of_getElem? (i := 9) rfl)
theorem gs_MO_balance : Cond.selects R_MO y_MO_balance y_MO_balance ∈ lk_G := lk_inG13 (List.mem_of_getElem? (i := 10) rfl)
theorem gs_MO_die : Cond.selects R_MO y_MO_die y_MO_die ∈ lk_G := lk_inG13 (List.mem_of_getElem? (i := 11) rfl)
theorem gs_MO_shrinks : Cond.selects R_MO y_MO_shrinks y_MO_shrinks ∈ lk_G := lk_inG13 (List.mem_of_getElem? (i := 12) rfl)
theorem gs_MO_isNode : Cond.selects R_MO y_MO_isNode y_MO_isNode ∈ lk_G := lk_inG13 (List.mem_of_getElem? (i := 13) rfl)
theorem lk_okG0 : lk_G0.all goodWord = true := by decide +kernel
theorem lk_okG1 : lk_G1.all goodWord = true := by decide +kernel
theorem lk_okG2 : lk_G2.all goodWord = true := by decide +kernel
theorem lk_okG3 : lk_G3.all goodWord = true := by decide +kernel
theorem lk_okG4 : lk_G4.all goodWord = true := by decide +kernel
theorem lk_okG5 : lk_G5.all goodWord = true := by decide +kernel
theorem lk_okG6 : lk_G6.all goodWord = true := by decide +kernel
theorem lk_okG7 : lk_G7.all goodWord = true := by decide +kernel
theorem lk_okG8 : lk_G8.all goodWord = true := by decide +kernel
theorem lk_okG9 : lk_G9.all goodWord = true := by decide +kernel
theorem lk_okG10 : lk_G10.all goodWord = true := by decide +kernel
theorem lk_okG11 : lk_G11.all goodWord = true := by decide +kernel
theorem lk_okG12 : lk_G12.all goodWord = true := by decide +kernel
theorem lk_okG13 : lk_G13.all goodWord = true := by decide +kernel
theorem lk_okLLT : (u_ws R_LT T_LT 5).all goodWord = true := by decide +kernel
theorem lk_okLND : (u_ws R_ND T_ND 11).all goodWord = true := by decide +kernel
theorem lk_okLTA : (u_ws R_TA T_TA 16).all goodWord = true := by decide +kernel
theorem lk_okLSP : (u_ws R_SP T_SP 2).all goodWord = true := by decide +kernel
theorem lk_okLMO : (u_ws R_MO T_MO 27).all goodWord = true := by decide +kernel
theorem lk_okG : ∀ w ∈ lk_G, goodWord w = true := List.forall_mem_append.mpr ⟨List.all_eq_true.mp lk_okG0, List.forall_mem_append.mpr ⟨List.all_eq_true.mp lk_okG1, List.forall_mem_append.mpr ⟨List.all_eq_true.mp lk_okG2, List.forall_mem_append.mpr ⟨List.all_eq_true.mp lk_okG3, List.forall_mem_append.mpr ⟨List.all_eq_true.mp lk_okG4, List.forall_mem_append.mpr ⟨List.all_eq_true.mp lk_okG5, List.forall_mem_append.mpr ⟨List.all_eq_true.mp lk_okG6, List.forall_mem_append.mpr ⟨List.all_eq_true.mp lk_okG7, List.forall_mem_append.mpr ⟨List.all_eq_true.mp lk_okG8, List.forall_mem_append.mpr ⟨List.all_eq_true.mp lk_okG9, List.forall_mem_append.mpr ⟨List.all_eq_true.mp lk_okG10, List.forall_mem_append.mpr ⟨List.all_eq_true.mp lk_okG11, List.forall_mem_append.mpr ⟨List.all_eq_true.mp lk_okG12, List.forall_mem_append.mpr ⟨List.all_eq_true.mp lk_okG13, List.forall_mem_append.mpr ⟨List.all_eq_true.mp lk_okLLT, List.forall_mem_append.mpr ⟨List.all_eq_true.mp lk_okLND, List.forall_mem_append.mpr ⟨List.all_eq_true.mp lk_okLTA, List.forall_mem_append.mpr ⟨List.all_eq_true.mp lk_okLSP, List.all_eq_true.mp lk_okLMO⟩⟩⟩⟩⟩⟩⟩⟩⟩⟩⟩⟩⟩⟩⟩⟩⟩⟩
theorem lk_gin {big : List Cond} {c : Cond} (h : ∀ w ∈ lk_G, w ∈ big) (hc : c ∈ lk_G) : GoodIn big (c :: lk_G) := fun w hw => (List.mem_cons.mp hw).elim (fun e => by rw [e]; exact ⟨h _ hc, good_of_word (lk_okG _ hc)⟩) (fun hw => ⟨h w hw, good_of_word (lk_okG w hw)⟩)
theorem gd_LT_init : y_LT_init.cls ≠ "java/lang/invoke/MethodHandle" ∧ y_LT_init.cls ≠ "java/lang/invoke/VarHandle" ∧ (parseMethodDescriptor y_LT_init.desc).map (fun d => d.parameters.length) = some 0 := by decide +kernel
theorem gd_ND_init : y_ND_init.cls ≠ "java/lang/invoke/MethodHandle" ∧ y_ND_init.cls ≠ "java/lang/invoke/VarHandle" ∧ (parseMethodDescriptor y_ND_init.desc).map (fun d => d.parameters.length) = some 1 := by decide +kernel
theorem gd_TA_init : y_TA_init.cls ≠ "java/lang/invoke/MethodHandle" ∧ y_TA_init.cls ≠ "java/lang/invoke/VarHandle" ∧ (parseMethodDescriptor y_TA_init.desc).map (fun d => d.parameters.length) = some 1 := by decide +kernel
theorem gd_SP_init : y_SP_init.cls ≠ "java/lang/invoke/MethodHandle" ∧ y_SP_init.cls ≠ "java/lang/invoke/VarHandle" ∧ (parseMethodDescriptor y_SP_init.desc).map (fun d => d.parameters.length) = some 0 := by decide +kernel
theorem gd_ND_become : y_ND_become.cls ≠ "java/lang/invoke/MethodHandle" ∧ y_ND_become.cls ≠ "java/lang/invoke/VarHandle" ∧ (parseMethodDescriptor y_ND_become.desc).map (fun d => d.parameters.length) = some 4 := by decide +kernel
theorem gd_LT_root : y_LT_root.cls ≠ "java/lang/invoke/MethodHandle" ∧ y_LT_root.cls ≠ "java/lang/invoke/VarHandle" ∧ (parseMethodDescriptor y_LT_root.desc).map (fun d => d.parameters.length) = some 0 := by decide +kernel
theorem gd_LT_queued : y_LT_queued.cls ≠ "java/lang/invoke/MethodHandle" ∧ y_LT_queued.cls ≠ "java/lang/invoke/VarHandle" ∧ (parseMethodDescriptor y_LT_queued.desc).map (fun d => d.parameters.length) = some 0 := by decide +kernel
theorem gd_LW_begin : y_LW_begin.cls ≠ "java/lang/invoke/MethodHandle" ∧ y_LW_begin.cls ≠ "java/lang/invoke/VarHandle" ∧ (parseMethodDescriptor y_LW_begin.desc).map (fun d => d.parameters.length) = some 5 := by decide +kernel
theorem gd_LT_begin : y_LT_begin.cls ≠ "java/lang/invoke/MethodHandle" ∧ y_LT_begin.cls ≠ "java/lang/invoke/VarHandle" ∧ (parseMethodDescriptor y_LT_begin.desc).map (fun d => d.parameters.length) = some 4 := by decide +kernel
theorem gd_LT_isTask : y_LT_isTask.cls ≠ "java/lang/invoke/MethodHandle" ∧ y_LT_isTask.cls ≠ "java/lang/invoke/VarHandle" ∧ (parseMethodDescriptor y_LT_isTask.desc).map (fun d => d.parameters.length) = some 1 := by decide +kernel
theorem gd_TA_searchAnew : y_TA_searchAnew.cls ≠ "java/lang/invoke/MethodHandle" ∧ y_TA_searchAnew.cls ≠ "java/lang/invoke/VarHandle" ∧ (parseMethodDescriptor y_TA_searchAnew.desc).map (fun d => d.parameters.length) = some 1 := by decide +kernel
theorem gd_LT_chooseSmallPage : y_LT_chooseSmallPage.cls ≠ "java/lang/invoke/MethodHandle" ∧ y_LT_chooseSmallPage.cls ≠ "java/lang/invoke/VarHandle" ∧ (parseMethodDescriptor y_LT_chooseSmallPage.desc).map (fun d => d.parameters.length) = some 1 := by decide +kernel
theorem gd_SP_takeFirst : y_SP_takeFirst.cls ≠ "java/lang/invoke/MethodHandle" ∧ y_SP_takeFirst.cls ≠ "java/lang/invoke/VarHandle" ∧ (parseMethodDescriptor y_SP_takeFirst.desc).map (fun d => d.parameters.length) = some 0 := by decide +kernel
theorem gd_SP_drop : y_SP_drop.cls ≠ "java/lang/invoke/MethodHandle" ∧ y_SP_drop.cls ≠ "java/lang/invoke/VarHandle" ∧ (parseMethodDescriptor y_SP_drop.desc).map (fun d => d.parameters.length) = some 1 := by decide +kernel
theorem gd_LT_nodeAt : y_LT_nodeAt.cls ≠ "java/lang/invoke/MethodHandle" ∧ y_LT_nodeAt.cls ≠ "java/lang/invoke/VarHandle" ∧ (parseMethodDescriptor y_LT_nodeAt.desc).map (fun d => d.parameters.length) = some 1 := by decide +kernel
theorem gd_LT_isPage : y_LT_isPage.cls ≠ "java/lang/invoke/MethodHandle" ∧ y_LT_isPage.cls ≠ "java/lang/invoke/VarHandle" ∧ (parseMethodDescriptor y_LT_isPage.desc).map (fun d => d.parameters.length) = some 1 := by decide +kernel
theorem gd_LW_step : y_LW_step.cls ≠ "java/lang/invoke/MethodHandle" ∧ y_LW_step.cls ≠ "java/lang/invoke/VarHandle" ∧ (parseMethodDescriptor y_LW_step.desc).map (fun d => d.parameters.length) = some 3 := by decide +kernel
theorem gd_LT_step : y_LT_step.cls ≠ "java/lang/invoke/MethodHandle" ∧ y_LT_step.cls ≠ "java/lang/invoke/VarHandle" ∧ (parseMethodDescriptor y_LT_step.desc).map (fun d => d.parameters.length) = some 1 := by decide +kernel
theorem gd_LT_advance : y_LT_advance.cls ≠ "java/lang/invoke/MethodHandle" ∧ y_LT_advance.cls ≠ "java/lang/invoke/VarHandle" ∧ (parseMethodDescriptor y_LT_advance.desc).map (fun d => d.parameters.length) = some 1 := by decide +kernel
theorem gd_LT_finish : y_LT_finish.cls ≠ "java/lang/invoke/MethodHandle" ∧ y_LT_finish.cls ≠ "java/lang/invoke/VarHandle" ∧ (parseMethodDescriptor y_LT_finish.desc).map (fun d => d.parameters.length) = some 2 := by decide +kernel
theorem gd_ND_awaitNoMore : y_ND_awaitNoMore.cls ≠ "java/lang/invoke/MethodHandle" ∧ y_ND_awaitNoMore.cls ≠ "java/lang/invoke/VarHandle" ∧ (parseMethodDescriptor y_ND_awaitNoMore.desc).map (fun d => d.parameters.length) = some 1 := by decide +kernel
theorem gd_ND_dieUntil : y_ND_dieUntil.cls ≠ "java/lang/invoke/MethodHandle" ∧ y_ND_dieUntil.cls ≠ "java/lang/invoke/VarHandle" ∧ (parseMethodDescriptor y_ND_dieUntil.desc).map (fun d => d.parameters.length) = some 1 := by decide +kernel
theorem gd_LT_search : y_LT_search.cls ≠ "java/lang/invoke/MethodHandle" ∧ y_LT_search.cls ≠ "java/lang/invoke/VarHandle" ∧ (parseMethodDescriptor y_LT_search.desc).map (fun d => d.parameters.length) = some 2 := by decide +kernel
theorem gd_ND_isWrongFor : y_ND_isWrongFor.cls ≠ "java/lang/invoke/MethodHandle" ∧ y_ND_isWrongFor.cls ≠ "java/lang/invoke/VarHandle" ∧ (parseMethodDescriptor y_ND_isWrongFor.desc).map (fun d => d.parameters.length) = some 1 := by decide +kernel
theorem gd_LT_restart : y_LT_restart.cls ≠ "java/lang/invoke/MethodHandle" ∧ y_LT_restart.cls ≠ "java/lang/invoke/VarHandle" ∧ (parseMethodDescriptor y_LT_restart.desc).map (fun d => d.parameters.length) = some 1 := by decide +kernel
theorem gd_LT_goRight : y_LT_goRight.cls ≠ "java/lang/invoke/MethodHandle" ∧ y_LT_goRight.cls ≠ "java/lang/invoke/VarHandle" ∧ (parseMethodDescriptor y_LT_goRight.desc).map (fun d => d.parameters.length) = some 2 := by decide +kernel
theorem gd_TA_note : y_TA_note.cls ≠ "java/lang/invoke/MethodHandle" ∧ y_TA_note.cls ≠ "java/lang/invoke/VarHandle" ∧ (parseMethodDescriptor y_TA_note.desc).map (fun d => d.parameters.length) = some 2 := by decide +kernel
theorem gd_ND_childFor : y_ND_childFor.cls ≠ "java/lang/invoke/MethodHandle" ∧ y_ND_childFor.cls ≠ "java/lang/invoke/VarHandle" ∧ (parseMethodDescriptor y_ND_childFor.desc).map (fun d => d.parameters.length) = some 1 := by decide +kernel
theorem gd_ND_firstNotBelow : y_ND_firstNotBelow.cls ≠ "java/lang/invoke/MethodHandle" ∧ y_ND_firstNotBelow.cls ≠ "java/lang/invoke/VarHandle" ∧ (parseMethodDescriptor y_ND_firstNotBelow.desc).map (fun d => d.parameters.length) = some 1 := by decide +kernel
theorem gd_LT_searchBelowWanted : y_LT_searchBelowWanted.cls ≠ "java/lang/invoke/MethodHandle" ∧ y_LT_searchBelowWanted.cls ≠ "java/lang/invoke/VarHandle" ∧ (parseMethodDescriptor y_LT_searchBelowWanted.desc).map (fun d => d.parameters.length) = some 1 := by decide +kernel
theorem gd_LT_leastFreeNode : y_LT_leastFreeNode.cls ≠ "java/lang/invoke/MethodHandle" ∧ y_LT_leastFreeNode.cls ≠ "java/lang/invoke/VarHandle" ∧ (parseMethodDescriptor y_LT_leastFreeNode.desc).map (fun d => d.parameters.length) = some 0 := by decide +kernel
theorem gd_ND_insert : y_ND_insert.cls ≠ "java/lang/invoke/MethodHandle" ∧ y_ND_insert.cls ≠ "java/lang/invoke/VarHandle" ∧ (parseMethodDescriptor y_ND_insert.desc).map (fun d => d.parameters.length) = some 3 := by decide +kernel
theorem gd_ND_valueOf : y_ND_valueOf.cls ≠ "java/lang/invoke/MethodHandle" ∧ y_ND_valueOf.cls ≠ "java/lang/invoke/VarHandle" ∧ (parseMethodDescriptor y_ND_valueOf.desc).map (fun d => d.parameters.length) = some 1 := by decide +kernel
theorem gd_ND_hasKeyAt : y_ND_hasKeyAt.cls ≠ "java/lang/invoke/MethodHandle" ∧ y_ND_hasKeyAt.cls ≠ "java/lang/invoke/VarHandle" ∧ (parseMethodDescriptor y_ND_hasKeyAt.desc).map (fun d => d.parameters.length) = some 2 := by decide +kernel
theorem gd_LT_lock : y_LT_lock.cls ≠ "java/lang/invoke/MethodHandle" ∧ y_LT_lock.cls ≠ "java/lang/invoke/VarHandle" ∧ (parseMethodDescriptor y_LT_lock.desc).map (fun d => d.parameters.length) = some 2 := by decide +kernel
theorem gd_LT_hold : y_LT_hold.cls ≠ "java/lang/invoke/MethodHandle" ∧ y_LT_hold.cls ≠ "java/lang/invoke/VarHandle" ∧ (parseMethodDescriptor y_LT_hold.desc).map (fun d => d.parameters.length) = some 2 := by decide +kernel
theorem gd_LT_put : y_LT_put.cls ≠ "java/lang/invoke/MethodHandle" ∧ y_LT_put.cls ≠ "java/lang/invoke/VarHandle" ∧ (parseMethodDescriptor y_LT_put.desc).map (fun d => d.parameters.length) = some 2 := by decide +kernel
theorem gd_LT_split : y_LT_split.cls ≠ "java/lang/invoke/MethodHandle" ∧ y_LT_split.cls ≠ "java/lang/invoke/VarHandle" ∧ (parseMethodDescriptor y_LT_split.desc).map (fun d => d.parameters.length) = some 3 := by decide +kernel
theorem gd_TA_notedAt : y_TA_notedAt.cls ≠ "java/lang/invoke/MethodHandle" ∧ y_TA_notedAt.cls ≠ "java/lang/invoke/VarHandle" ∧ (parseMethodDescriptor y_TA_notedAt.desc).map (fun d => d.parameters.length) = some 1 := by decide +kernel
theorem gd_LT_remove : y_LT_remove.cls ≠ "java/lang/invoke/MethodHandle" ∧ y_LT_remove.cls ≠ "java/lang/invoke/VarHandle" ∧ (parseMethodDescriptor y_LT_remove.desc).map (fun d => d.parameters.length) = some 2 := by decide +kernel
theorem gd_ND_delete : y_ND_delete.cls ≠ "java/lang/invoke/MethodHandle" ∧ y_ND_delete.cls ≠ "java/lang/invoke/VarHandle" ∧ (parseMethodDescriptor y_ND_delete.desc).map (fun d => d.parameters.length) = some 1 := by decide +kernel
theorem gd_SP_add : y_SP_add.cls ≠ "java/lang/invoke/MethodHandle" ∧ y_SP_add.cls ≠ "java/lang/invoke/VarHandle" ∧ (parseMethodDescriptor y_SP_add.desc).map (fun d => d.parameters.length) = some 1 := by decide +kernel
theorem gd_SP_has : y_SP_has.cls ≠ "java/lang/invoke/MethodHandle" ∧ y_SP_has.cls ≠ "java/lang/invoke/VarHandle" ∧ (parseMethodDescriptor y_SP_has.desc).map (fun d => d.parameters.length) = some 1 := by decide +kernel
theorem gd_LT_join : y_LT_join.cls ≠ "java/lang/invoke/MethodHandle" ∧ y_LT_join.cls ≠ "java/lang/invoke/VarHandle" ∧ (parseMethodDescriptor y_LT_join.desc).map (fun d => d.parameters.length) = some 2 := by decide +kernel
theorem gd_ND_entryOfChild : y_ND_entryOfChild.cls ≠ "java/lang/invoke/MethodHandle" ∧ y_ND_entryOfChild.cls ≠ "java/lang/invoke/VarHandle" ∧ (parseMethodDescriptor y_ND_entryOfChild.desc).map (fun d => d.parameters.length) = some 1 := by decide +kernel
theorem gd_ND_takeAllOf : y_ND_takeAllOf.cls ≠ "java/lang/invoke/MethodHandle" ∧ y_ND_takeAllOf.cls ≠ "java/lang/invoke/VarHandle" ∧ (parseMethodDescriptor y_ND_takeAllOf.desc).map (fun d => d.parameters.length) = some 1 := by decide +kernel
theorem gd_ND_moveFirstOf : y_ND_moveFirstOf.cls ≠ "java/lang/invoke/MethodHandle" ∧ y_ND_moveFirstOf.cls ≠ "java/lang/invoke/VarHandle" ∧ (parseMethodDescriptor y_ND_moveFirstOf.desc).map (fun d => d.parameters.length) = some 2 := by decide +kernel
theorem gd_LT_die : y_LT_die.cls ≠ "java/lang/invoke/MethodHandle" ∧ y_LT_die.cls ≠ "java/lang/invoke/VarHandle" ∧ (parseMethodDescriptor y_LT_die.desc).map (fun d => d.parameters.length) = some 2 := by decide +kernel
theorem gd_ND_shareWith : y_ND_shareWith.cls ≠ "java/lang/invoke/MethodHandle" ∧ y_ND_shareWith.cls ≠ "java/lang/invoke/VarHandle" ∧ (parseMethodDescriptor y_ND_shareWith.desc).map (fun d => d.parameters.length) = some 1 := by decide +kernel
theorem gd_ND_moveLastTo : y_ND_moveLastTo.cls ≠ "java/lang/invoke/MethodHandle" ∧ y_ND_moveLastTo.cls ≠ "java/lang/invoke/VarHandle" ∧ (parseMethodDescriptor y_ND_moveLastTo.desc).map (fun d => d.parameters.length) = some 2 := by decide +kernel
theorem gd_LT_lowerOrQueue : y_LT_lowerOrQueue.cls ≠ "java/lang/invoke/MethodHandle" ∧ y_LT_lowerOrQueue.cls ≠ "java/lang/invoke/VarHandle" ∧ (parseMethodDescriptor y_LT_lowerOrQueue.desc).map (fun d => d.parameters.length) = some 2 := by decide +kernel
theorem gd_LT_post : y_LT_post.cls ≠ "java/lang/invoke/MethodHandle" ∧ y_LT_post.cls ≠ "java/lang/invoke/VarHandle" ∧ (parseMethodDescriptor y_LT_post.desc).map (fun d => d.parameters.length) = some 2 := by decide +kernel
theorem gd_ND_divideEntry : y_ND_divideEntry.cls ≠ "java/lang/invoke/MethodHandle" ∧ y_ND_divideEntry.cls ≠ "java/lang/invoke/VarHandle" ∧ (parseMethodDescriptor y_ND_divideEntry.desc).map (fun d => d.parameters.length) = some 2 := by decide +kernel
theorem gd_LW_answer : y_LW_answer.cls ≠ "java/lang/invoke/MethodHandle" ∧ y_LW_answer.cls ≠ "java/lang/invoke/VarHandle" ∧ (parseMethodDescriptor y_LW_answer.desc).map (fun d => d.parameters.length) = some 3 := by decide +kernel
theorem gd_LT_answer : y_LT_answer.cls ≠ "java/lang/invoke/MethodHandle" ∧ y_LT_answer.cls ≠ "java/lang/invoke/VarHandle" ∧ (parseMethodDescriptor y_LT_answer.desc).map (fun d => d.parameters.length) = some 1 := by decide +kernel
theorem gd_LW_look : y_LW_look.cls ≠ "java/lang/invoke/MethodHandle" ∧ y_LW_look.cls ≠ "java/lang/invoke/VarHandle" ∧ (parseMethodDescriptor y_LW_look.desc).map (fun d => d.parameters.length) = some 4 := by decide +kernel
theorem gd_LT_look : y_LT_look.cls ≠ "java/lang/invoke/MethodHandle" ∧ y_LT_look.cls ≠ "java/lang/invoke/VarHandle" ∧ (parseMethodDescriptor y_LT_look.desc).map (fun d => d.parameters.length) = some 2 := by decide +kernel
theorem gd_LW_page : y_LW_page.cls ≠ "java/lang/invoke/MethodHandle" ∧ y_LW_page.cls ≠ "java/lang/invoke/VarHandle" ∧ (parseMethodDescriptor y_LW_page.desc).map (fun d => d.parameters.length) = some 4 := by decide +kernel
theorem gd_LT_page : y_LT_page.cls ≠ "java/lang/invoke/MethodHandle" ∧ y_LT_page.cls ≠ "java/lang/invoke/VarHandle" ∧ (parseMethodDescriptor y_LT_page.desc).map (fun d => d.parameters.length) = some 2 := by decide +kernel
theorem gd_LW_entry : y_LW_entry.cls ≠ "java/lang/invoke/MethodHandle" ∧ y_LW_entry.cls ≠ "java/lang/invoke/VarHandle" ∧ (parseMethodDescriptor y_LW_entry.desc).map (fun d => d.parameters.length) = some 5 := by decide +kernel
theorem gd_LT_entry : y_LT_entry.cls ≠ "java/lang/invoke/MethodHandle" ∧ y_LT_entry.cls ≠ "java/lang/invoke/VarHandle" ∧ (parseMethodDescriptor y_LT_entry.desc).map (fun d => d.parameters.length) = some 3 := by decide +kernel
theorem gd_LW_under : y_LW_under.cls ≠ "java/lang/invoke/MethodHandle" ∧ y_LW_under.cls ≠ "java/lang/invoke/VarHandle" ∧ (parseMethodDescriptor y_LW_under.desc).map (fun d => d.parameters.length) = some 3 := by decide +kernel
theorem gd_LT_under : y_LT_under.cls ≠ "java/lang/invoke/MethodHandle" ∧ y_LT_under.cls ≠ "java/lang/invoke/VarHandle" ∧ (parseMethodDescriptor y_LT_under.desc).map (fun d => d.parameters.length) = some 1 := by decide +kernel
theorem gd_LT_leafEntries : y_LT_leafEntries.cls ≠ "java/lang/invoke/MethodHandle" ∧ y_LT_leafEntries.cls ≠ "java/lang/invoke/VarHandle" ∧ (parseMethodDescriptor y_LT_leafEntries.desc).map (fun d => d.parameters.length) = some 2 := by decide +kernel
theorem gd_MO_init : y_MO_init.cls ≠ "java/lang/invoke/MethodHandle" ∧ y_MO_init.cls ≠ "java/lang/invoke/VarHandle" ∧ (parseMethodDescriptor y_MO_init.desc).map (fun d => d.parameters.length) = some 0 := by decide +kernel
theorem gd_MO_thrown : y_MO_thrown.cls ≠ "java/lang/invoke/MethodHandle" ∧ y_MO_thrown.cls ≠ "java/lang/invoke/VarHandle" ∧ (parseMethodDescriptor y_MO_thrown.desc).map (fun d => d.parameters.length) = some 0 := by decide +kernel
theorem gd_MO_begin : y_MO_begin.cls ≠ "java/lang/invoke/MethodHandle" ∧ y_MO_begin.cls ≠ "java/lang/invoke/VarHandle" ∧ (parseMethodDescriptor y_MO_begin.desc).map (fun d => d.parameters.length) = some 4 := by decide +kernel
theorem gd_MO_isTask : y_MO_isTask.cls ≠ "java/lang/invoke/MethodHandle" ∧ y_MO_isTask.cls ≠ "java/lang/invoke/VarHandle" ∧ (parseMethodDescriptor y_MO_isTask.desc).map (fun d => d.parameters.length) = some 1 := by decide +kernel
theorem gd_MO_within : y_MO_within.cls ≠ "java/lang/invoke/MethodHandle" ∧ y_MO_within.cls ≠ "java/lang/invoke/VarHandle" ∧ (parseMethodDescriptor y_MO_within.desc).map (fun d => d.parameters.length) = some 3 := by decide +kernel
theorem gd_MO_fails : y_MO_fails.cls ≠ "java/lang/invoke/MethodHandle" ∧ y_MO_fails.cls ≠ "java/lang/invoke/VarHandle" ∧ (parseMethodDescriptor y_MO_fails.desc).map (fun d => d.parameters.length) = some 2 := by decide +kernel
theorem gd_MO_forgetPath : y_MO_forgetPath.cls ≠ "java/lang/invoke/MethodHandle" ∧ y_MO_forgetPath.cls ≠ "java/lang/invoke/VarHandle" ∧ (parseMethodDescriptor y_MO_forgetPath.desc).map (fun d => d.parameters.length) = some 1 := by decide +kernel
theorem gd_MO_search : y_MO_search.cls ≠ "java/lang/invoke/MethodHandle" ∧ y_MO_search.cls ≠ "java/lang/invoke/VarHandle" ∧ (parseMethodDescriptor y_MO_search.desc).map (fun d => d.parameters.length) = some 2 := by decide +kernel
theorem gd_MO_beginJoin : y_MO_beginJoin.cls ≠ "java/lang/invoke/MethodHandle" ∧ y_MO_beginJoin.cls ≠ "java/lang/invoke/VarHandle" ∧ (parseMethodDescriptor y_MO_beginJoin.desc).map (fun d => d.parameters.length) = some 1 := by decide +kernel
theorem gd_MO_leaveQueue : y_MO_leaveQueue.cls ≠ "java/lang/invoke/MethodHandle" ∧ y_MO_leaveQueue.cls ≠ "java/lang/invoke/VarHandle" ∧ (parseMethodDescriptor y_MO_leaveQueue.desc).map (fun d => d.parameters.length) = some 1 := by decide +kernel
theorem gd_MO_step : y_MO_step.cls ≠ "java/lang/invoke/MethodHandle" ∧ y_MO_step.cls ≠ "java/lang/invoke/VarHandle" ∧ (parseMethodDescriptor y_MO_step.desc).map (fun d => d.parameters.length) = some 1 := by decide +kernel
theorem gd_MO_searches : y_MO_searches.cls ≠ "java/lang/invoke/MethodHandle" ∧ y_MO_searches.cls ≠ "java/lang/invoke/VarHandle" ∧ (parseMethodDescriptor y_MO_searches.desc).map (fun d => d.parameters.length) = some 1 := by decide +kernel
theorem gd_MO_finish : y_MO_finish.cls ≠ "java/lang/invoke/MethodHandle" ∧ y_MO_finish.cls ≠ "java/lang/invoke/VarHandle" ∧ (parseMethodDescriptor y_MO_finish.desc).map (fun d => d.parameters.length) = some 2 := by decide +kernel
theorem gd_MO_release : y_MO_release.cls ≠ "java/lang/invoke/MethodHandle" ∧ y_MO_release.cls ≠ "java/lang/invoke/VarHandle" ∧ (parseMethodDescriptor y_MO_release.desc).map (fun d => d.parameters.length) = some 1 := by decide +kernel
theorem gd_MO_isLost : y_MO_isLost.cls ≠ "java/lang/invoke/MethodHandle" ∧ y_MO_isLost.cls ≠ "java/lang/invoke/VarHandle" ∧ (parseMethodDescriptor y_MO_isLost.desc).map (fun d => d.parameters.length) = some 1 := by decide +kernel
theorem gd_MO_restart : y_MO_restart.cls ≠ "java/lang/invoke/MethodHandle" ∧ y_MO_restart.cls ≠ "java/lang/invoke/VarHandle" ∧ (parseMethodDescriptor y_MO_restart.desc).map (fun d => d.parameters.length) = some 1 := by decide +kernel
theorem gd_MO_goRight : y_MO_goRight.cls ≠ "java/lang/invoke/MethodHandle" ∧ y_MO_goRight.cls ≠ "java/lang/invoke/VarHandle" ∧ (parseMethodDescriptor y_MO_goRight.desc).map (fun d => d.parameters.length) = some 1 := by decide +kernel
theorem gd_MO_from : y_MO_from.cls ≠ "java/lang/invoke/MethodHandle" ∧ y_MO_from.cls ≠ "java/lang/invoke/VarHandle" ∧ (parseMethodDescriptor y_MO_from.desc).map (fun d => d.parameters.length) = some 2 := by decide +kernel
theorem gd_MO_rises : y_MO_rises.cls ≠ "java/lang/invoke/MethodHandle" ∧ y_MO_rises.cls ≠ "java/lang/invoke/VarHandle" ∧ (parseMethodDescriptor y_MO_rises.desc).map (fun d => d.parameters.length) = some 1 := by decide +kernel
theorem gd_MO_freePage : y_MO_freePage.cls ≠ "java/lang/invoke/MethodHandle" ∧ y_MO_freePage.cls ≠ "java/lang/invoke/VarHandle" ∧ (parseMethodDescriptor y_MO_freePage.desc).map (fun d => d.parameters.length) = some 0 := by decide +kernel
theorem gd_MO_make : y_MO_make.cls ≠ "java/lang/invoke/MethodHandle" ∧ y_MO_make.cls ≠ "java/lang/invoke/VarHandle" ∧ (parseMethodDescriptor y_MO_make.desc).map (fun d => d.parameters.length) = some 5 := by decide +kernel
theorem gd_MO_append : y_MO_append.cls ≠ "java/lang/invoke/MethodHandle" ∧ y_MO_append.cls ≠ "java/lang/invoke/VarHandle" ∧ (parseMethodDescriptor y_MO_append.desc).map (fun d => d.parameters.length) = some 3 := by decide +kernel
theorem gd_MO_has : y_MO_has.cls ≠ "java/lang/invoke/MethodHandle" ∧ y_MO_has.cls ≠ "java/lang/invoke/VarHandle" ∧ (parseMethodDescriptor y_MO_has.desc).map (fun d => d.parameters.length) = some 2 := by decide +kernel
theorem gd_MO_locks : y_MO_locks.cls ≠ "java/lang/invoke/MethodHandle" ∧ y_MO_locks.cls ≠ "java/lang/invoke/VarHandle" ∧ (parseMethodDescriptor y_MO_locks.desc).map (fun d => d.parameters.length) = some 1 := by decide +kernel
theorem gd_MO_holds : y_MO_holds.cls ≠ "java/lang/invoke/MethodHandle" ∧ y_MO_holds.cls ≠ "java/lang/invoke/VarHandle" ∧ (parseMethodDescriptor y_MO_holds.desc).map (fun d => d.parameters.length) = some 1 := by decide +kernel
theorem gd_MO_puts : y_MO_puts.cls ≠ "java/lang/invoke/MethodHandle" ∧ y_MO_puts.cls ≠ "java/lang/invoke/VarHandle" ∧ (parseMethodDescriptor y_MO_puts.desc).map (fun d => d.parameters.length) = some 2 := by decide +kernel
theorem gd_MO_insert : y_MO_insert.cls ≠ "java/lang/invoke/MethodHandle" ∧ y_MO_insert.cls ≠ "java/lang/invoke/VarHandle" ∧ (parseMethodDescriptor y_MO_insert.desc).map (fun d => d.parameters.length) = some 4 := by decide +kernel
theorem gd_MO_split : y_MO_split.cls ≠ "java/lang/invoke/MethodHandle" ∧ y_MO_split.cls ≠ "java/lang/invoke/VarHandle" ∧ (parseMethodDescriptor y_MO_split.desc).map (fun d => d.parameters.length) = some 2 := by decide +kernel
theorem gd_MO_posts : y_MO_posts.cls ≠ "java/lang/invoke/MethodHandle" ∧ y_MO_posts.cls ≠ "java/lang/invoke/VarHandle" ∧ (parseMethodDescriptor y_MO_posts.desc).map (fun d => d.parameters.length) = some 2 := by decide +kernel
theorem gd_MO_removes : y_MO_removes.cls ≠ "java/lang/invoke/MethodHandle" ∧ y_MO_removes.cls ≠ "java/lang/invoke/VarHandle" ∧ (parseMethodDescriptor y_MO_removes.desc).map (fun d => d.parameters.length) = some 2 := by decide +kernel
theorem gd_MO_takeOut : y_MO_takeOut.cls ≠ "java/lang/invoke/MethodHandle" ∧ y_MO_takeOut.cls ≠ "java/lang/invoke/VarHandle" ∧ (parseMethodDescriptor y_MO_takeOut.desc).map (fun d => d.parameters.length) = some 2 := by decide +kernel
theorem gd_MO_comeIntoQueue : y_MO_comeIntoQueue.cls ≠ "java/lang/invoke/MethodHandle" ∧ y_MO_comeIntoQueue.cls ≠ "java/lang/invoke/VarHandle" ∧ (parseMethodDescriptor y_MO_comeIntoQueue.desc).map (fun d => d.parameters.length) = some 1 := by decide +kernel
theorem gd_MO_joins : y_MO_joins.cls ≠ "java/lang/invoke/MethodHandle" ∧ y_MO_joins.cls ≠ "java/lang/invoke/VarHandle" ∧ (parseMethodDescriptor y_MO_joins.desc).map (fun d => d.parameters.length) = some 2 := by decide +kernel
theorem gd_MO_childOf : y_MO_childOf.cls ≠ "java/lang/invoke/MethodHandle" ∧ y_MO_childOf.cls ≠ "java/lang/invoke/VarHandle" ∧ (parseMethodDescriptor y_MO_childOf.desc).map (fun d => d.parameters.length) = some 2 := by decide +kernel
theorem gd_MO_balance : y_MO_balance.cls ≠ "java/lang/invoke/MethodHandle" ∧ y_MO_balance.cls ≠ "java/lang/invoke/VarHandle" ∧ (parseMethodDescriptor y_MO_balance.desc).map (fun d => d.parameters.length) = some 2 := by decide +kernel
theorem gd_MO_die : y_MO_die.cls ≠ "java/lang/invoke/MethodHandle" ∧ y_MO_die.cls ≠ "java/lang/invoke/VarHandle" ∧ (parseMethodDescriptor y_MO_die.desc).map (fun d => d.parameters.length) = some 2 := by decide +kernel
theorem gd_MO_shrinks : y_MO_shrinks.cls ≠ "java/lang/invoke/MethodHandle" ∧ y_MO_shrinks.cls ≠ "java/lang/invoke/VarHandle" ∧ (parseMethodDescriptor y_MO_shrinks.desc).map (fun d => d.parameters.length) = some 2 := by decide +kernel
theorem gd_MO_answer : y_MO_answer.cls ≠ "java/lang/invoke/MethodHandle" ∧ y_MO_answer.cls ≠ "java/lang/invoke/VarHandle" ∧ (parseMethodDescriptor y_MO_answer.desc).map (fun d => d.parameters.length) = some 1 := by decide +kernel
theorem gd_MO_look : y_MO_look.cls ≠ "java/lang/invoke/MethodHandle" ∧ y_MO_look.cls ≠ "java/lang/invoke/VarHandle" ∧ (parseMethodDescriptor y_MO_look.desc).map (fun d => d.parameters.length) = some 2 := by decide +kernel
theorem gd_MO_page : y_MO_page.cls ≠ "java/lang/invoke/MethodHandle" ∧ y_MO_page.cls ≠ "java/lang/invoke/VarHandle" ∧ (parseMethodDescriptor y_MO_page.desc).map (fun d => d.parameters.length) = some 2 := by decide +kernel
theorem gd_MO_entry : y_MO_entry.cls ≠ "java/lang/invoke/MethodHandle" ∧ y_MO_entry.cls ≠ "java/lang/invoke/VarHandle" ∧ (parseMethodDescriptor y_MO_entry.desc).map (fun d => d.parameters.length) = some 3 := by decide +kernel
theorem gd_MO_isNode : y_MO_isNode.cls ≠ "java/lang/invoke/MethodHandle" ∧ y_MO_isNode.cls ≠ "java/lang/invoke/VarHandle" ∧ (parseMethodDescriptor y_MO_isNode.desc).map (fun d => d.parameters.length) = some 1 := by decide +kernel
theorem gd_MO_root : y_MO_root.cls ≠ "java/lang/invoke/MethodHandle" ∧ y_MO_root.cls ≠ "java/lang/invoke/VarHandle" ∧ (parseMethodDescriptor y_MO_root.desc).map (fun d => d.parameters.length) = some 0 := by decide +kernel
theorem gd_MO_queued : y_MO_queued.cls ≠ "java/lang/invoke/MethodHandle" ∧ y_MO_queued.cls ≠ "java/lang/invoke/VarHandle" ∧ (parseMethodDescriptor y_MO_queued.desc).map (fun d => d.parameters.length) = some 0 := by decide +kernel
theorem gd_MO_under : y_MO_under.cls ≠ "java/lang/invoke/MethodHandle" ∧ y_MO_under.cls ≠ "java/lang/invoke/VarHandle" ∧ (parseMethodDescriptor y_MO_under.desc).map (fun d => d.parameters.length) = some 1 := by decide +kernel
