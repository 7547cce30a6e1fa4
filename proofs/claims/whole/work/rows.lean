section
-- ===== PART A: goes FIRST, ahead of the names: the tables' words, and 'selects' of the private methods out of them =====
/-- a private method of a class that the tables say can be made, by its rows of tables_1 -/
def lw_okq (q : MethodName × Nat) : Prop := (q.1.cls ≠ "java/lang/invoke/MethodHandle" ∧ q.1.cls ≠ "java/lang/invoke/VarHandle") ∧ Cond.instantiable q.1.cls q.2 ∈ tables_1 ∧ Cond.privateMethod q.1 ∈ tables_1 ∧ Cond.instanceMethod q.1 ∈ tables_1
theorem lw_p0 : lw_okq (⟨"UpdateRobot$Solver", "setOut", "(LUpdateRobot$Names;I)V"⟩, 2) := ⟨⟨by decide +kernel, by decide +kernel⟩, List.mem_of_getElem? (i := 82) (by decide +kernel), List.mem_of_getElem? (i := 233) (by decide +kernel), List.mem_of_getElem? (i := 234) (by decide +kernel)⟩
theorem lw_p1 : lw_okq (⟨"UpdateRobot$Solver", "firstNeedy", "(LUpdateRobot$Names;)I"⟩, 2) := ⟨⟨by decide +kernel, by decide +kernel⟩, List.mem_of_getElem? (i := 82) (by decide +kernel), List.mem_of_getElem? (i := 239) (by decide +kernel), List.mem_of_getElem? (i := 240) (by decide +kernel)⟩
theorem lw_p2 : lw_okq (⟨"UpdateRobot$Solver", "lacksAtTarget", "(LUpdateRobot$Names;I)Z"⟩, 2) := ⟨⟨by decide +kernel, by decide +kernel⟩, List.mem_of_getElem? (i := 82) (by decide +kernel), List.mem_of_getElem? (i := 243) (by decide +kernel), List.mem_of_getElem? (i := 244) (by decide +kernel)⟩
theorem lw_p3 : lw_okq (⟨"UpdateRobot$Solver", "keepRaised", "(LUpdateRobot$Names;)I"⟩, 2) := ⟨⟨by decide +kernel, by decide +kernel⟩, List.mem_of_getElem? (i := 82) (by decide +kernel), List.mem_of_getElem? (i := 250) (by decide +kernel), List.mem_of_getElem? (i := 251) (by decide +kernel)⟩
theorem lw_p4 : lw_okq (⟨"UpdateRobot", "isDue", "(I)Z"⟩, 6) := ⟨⟨by decide +kernel, by decide +kernel⟩, List.mem_of_getElem? (i := 8) (by decide +kernel), List.mem_of_getElem? (i := 264) (by decide +kernel), List.mem_of_getElem? (i := 265) (by decide +kernel)⟩
theorem lw_p5 : lw_okq (⟨"UpdateRobot", "review", "(I)V"⟩, 6) := ⟨⟨by decide +kernel, by decide +kernel⟩, List.mem_of_getElem? (i := 8) (by decide +kernel), List.mem_of_getElem? (i := 277) (by decide +kernel), List.mem_of_getElem? (i := 278) (by decide +kernel)⟩
theorem lw_p6 : lw_okq (⟨"UpdateRobot$Proposals", "latestOf", "(II)I"⟩, 7) := ⟨⟨by decide +kernel, by decide +kernel⟩, List.mem_of_getElem? (i := 96) (by decide +kernel), List.mem_of_getElem? (i := 285) (by decide +kernel), List.mem_of_getElem? (i := 286) (by decide +kernel)⟩
theorem lw_p7 : lw_okq (⟨"UpdateRobot", "mayOpen", "(II)Z"⟩, 6) := ⟨⟨by decide +kernel, by decide +kernel⟩, List.mem_of_getElem? (i := 8) (by decide +kernel), List.mem_of_getElem? (i := 305) (by decide +kernel), List.mem_of_getElem? (i := 306) (by decide +kernel)⟩
theorem lw_p8 : lw_okq (⟨"UpdateRobot", "openIn", "(I)I"⟩, 6) := ⟨⟨by decide +kernel, by decide +kernel⟩, List.mem_of_getElem? (i := 8) (by decide +kernel), List.mem_of_getElem? (i := 313) (by decide +kernel), List.mem_of_getElem? (i := 314) (by decide +kernel)⟩
theorem lw_p9 : lw_okq (⟨"UpdateRobot", "redoAllTouchedBy", "(I)V"⟩, 6) := ⟨⟨by decide +kernel, by decide +kernel⟩, List.mem_of_getElem? (i := 8) (by decide +kernel), List.mem_of_getElem? (i := 351) (by decide +kernel), List.mem_of_getElem? (i := 352) (by decide +kernel)⟩
theorem lw_p10 : lw_okq (⟨"UpdateRobot", "redo", "(I)V"⟩, 6) := ⟨⟨by decide +kernel, by decide +kernel⟩, List.mem_of_getElem? (i := 8) (by decide +kernel), List.mem_of_getElem? (i := 359) (by decide +kernel), List.mem_of_getElem? (i := 360) (by decide +kernel)⟩
theorem lw_p11 : lw_okq (⟨"UpdateRobotModel", "isName", "(I)Z"⟩, 25) := ⟨⟨by decide +kernel, by decide +kernel⟩, List.mem_of_getElem? (i := 371) (by decide +kernel), List.mem_of_getElem? (i := 461) (by decide +kernel), List.mem_of_getElem? (i := 462) (by decide +kernel)⟩
theorem lw_p12 : lw_okq (⟨"UpdateRobotModel", "goalOf", "(I)I"⟩, 25) := ⟨⟨by decide +kernel, by decide +kernel⟩, List.mem_of_getElem? (i := 371) (by decide +kernel), List.mem_of_getElem? (i := 485) (by decide +kernel), List.mem_of_getElem? (i := 486) (by decide +kernel)⟩
theorem lw_p13 : lw_okq (⟨"UpdateRobotModel", "isAllowed", "(II)Z"⟩, 25) := ⟨⟨by decide +kernel, by decide +kernel⟩, List.mem_of_getElem? (i := 371) (by decide +kernel), List.mem_of_getElem? (i := 489) (by decide +kernel), List.mem_of_getElem? (i := 490) (by decide +kernel)⟩
theorem lw_p14 : lw_okq (⟨"UpdateRobotModel", "isHit", "(I)Z"⟩, 25) := ⟨⟨by decide +kernel, by decide +kernel⟩, List.mem_of_getElem? (i := 371) (by decide +kernel), List.mem_of_getElem? (i := 493) (by decide +kernel), List.mem_of_getElem? (i := 494) (by decide +kernel)⟩
theorem lw_p15 : lw_okq (⟨"UpdateRobotModel", "chiefOf", "(I)I"⟩, 25) := ⟨⟨by decide +kernel, by decide +kernel⟩, List.mem_of_getElem? (i := 371) (by decide +kernel), List.mem_of_getElem? (i := 501) (by decide +kernel), List.mem_of_getElem? (i := 502) (by decide +kernel)⟩
def lw_privs_1 : List (MethodName × Nat) := [(⟨"UpdateRobot$Solver", "setOut", "(LUpdateRobot$Names;I)V"⟩, 2), (⟨"UpdateRobot$Solver", "firstNeedy", "(LUpdateRobot$Names;)I"⟩, 2), (⟨"UpdateRobot$Solver", "lacksAtTarget", "(LUpdateRobot$Names;I)Z"⟩, 2), (⟨"UpdateRobot$Solver", "keepRaised", "(LUpdateRobot$Names;)I"⟩, 2), (⟨"UpdateRobot", "isDue", "(I)Z"⟩, 6), (⟨"UpdateRobot", "review", "(I)V"⟩, 6), (⟨"UpdateRobot$Proposals", "latestOf", "(II)I"⟩, 7), (⟨"UpdateRobot", "mayOpen", "(II)Z"⟩, 6), (⟨"UpdateRobot", "openIn", "(I)I"⟩, 6), (⟨"UpdateRobot", "redoAllTouchedBy", "(I)V"⟩, 6), (⟨"UpdateRobot", "redo", "(I)V"⟩, 6), (⟨"UpdateRobotModel", "isName", "(I)Z"⟩, 25), (⟨"UpdateRobotModel", "goalOf", "(I)I"⟩, 25), (⟨"UpdateRobotModel", "isAllowed", "(II)Z"⟩, 25), (⟨"UpdateRobotModel", "isHit", "(I)Z"⟩, 25), (⟨"UpdateRobotModel", "chiefOf", "(I)I"⟩, 25)]
theorem lw_r1 : ∀ q ∈ lw_privs_1, lw_okq q := List.forall_mem_cons.mpr ⟨lw_p0, List.forall_mem_cons.mpr ⟨lw_p1, List.forall_mem_cons.mpr ⟨lw_p2, List.forall_mem_cons.mpr ⟨lw_p3, List.forall_mem_cons.mpr ⟨lw_p4, List.forall_mem_cons.mpr ⟨lw_p5, List.forall_mem_cons.mpr ⟨lw_p6, List.forall_mem_cons.mpr ⟨lw_p7, List.forall_mem_cons.mpr ⟨lw_p8, List.forall_mem_cons.mpr ⟨lw_p9, List.forall_mem_cons.mpr ⟨lw_p10, List.forall_mem_cons.mpr ⟨lw_p11, List.forall_mem_cons.mpr ⟨lw_p12, List.forall_mem_cons.mpr ⟨lw_p13, List.forall_mem_cons.mpr ⟨lw_p14, List.forall_mem_cons.mpr ⟨lw_p15, fun _ h => absurd h List.not_mem_nil⟩⟩⟩⟩⟩⟩⟩⟩⟩⟩⟩⟩⟩⟩⟩⟩
theorem lw_p16 : lw_okq (⟨"UpdateRobotModel", "areOne", "(II)Z"⟩, 25) := ⟨⟨by decide +kernel, by decide +kernel⟩, List.mem_of_getElem? (i := 371) (by decide +kernel), List.mem_of_getElem? (i := 505) (by decide +kernel), List.mem_of_getElem? (i := 506) (by decide +kernel)⟩
theorem lw_p17 : lw_okq (⟨"UpdateRobotModel", "find", "(I)I"⟩, 25) := ⟨⟨by decide +kernel, by decide +kernel⟩, List.mem_of_getElem? (i := 371) (by decide +kernel), List.mem_of_getElem? (i := 513) (by decide +kernel), List.mem_of_getElem? (i := 514) (by decide +kernel)⟩
theorem lw_p18 : lw_okq (⟨"UpdateRobotModel", "wanting", "()I"⟩, 25) := ⟨⟨by decide +kernel, by decide +kernel⟩, List.mem_of_getElem? (i := 371) (by decide +kernel), List.mem_of_getElem? (i := 517) (by decide +kernel), List.mem_of_getElem? (i := 518) (by decide +kernel)⟩
theorem lw_p19 : lw_okq (⟨"UpdateRobotModel", "isDue", "(I)Z"⟩, 25) := ⟨⟨by decide +kernel, by decide +kernel⟩, List.mem_of_getElem? (i := 371) (by decide +kernel), List.mem_of_getElem? (i := 531) (by decide +kernel), List.mem_of_getElem? (i := 532) (by decide +kernel)⟩
theorem lw_p20 : lw_okq (⟨"UpdateRobotModel", "propose", "(I)I"⟩, 25) := ⟨⟨by decide +kernel, by decide +kernel⟩, List.mem_of_getElem? (i := 371) (by decide +kernel), List.mem_of_getElem? (i := 535) (by decide +kernel), List.mem_of_getElem? (i := 536) (by decide +kernel)⟩
theorem lw_p21 : lw_okq (⟨"UpdateRobotModel", "latest", "(II)I"⟩, 25) := ⟨⟨by decide +kernel, by decide +kernel⟩, List.mem_of_getElem? (i := 371) (by decide +kernel), List.mem_of_getElem? (i := 539) (by decide +kernel), List.mem_of_getElem? (i := 540) (by decide +kernel)⟩
theorem lw_p22 : lw_okq (⟨"UpdateRobotModel", "isSame", "(I)Z"⟩, 25) := ⟨⟨by decide +kernel, by decide +kernel⟩, List.mem_of_getElem? (i := 371) (by decide +kernel), List.mem_of_getElem? (i := 543) (by decide +kernel), List.mem_of_getElem? (i := 544) (by decide +kernel)⟩
theorem lw_p23 : lw_okq (⟨"UpdateRobotModel", "raised", "(I)I"⟩, 25) := ⟨⟨by decide +kernel, by decide +kernel⟩, List.mem_of_getElem? (i := 371) (by decide +kernel), List.mem_of_getElem? (i := 547) (by decide +kernel), List.mem_of_getElem? (i := 548) (by decide +kernel)⟩
theorem lw_p24 : lw_okq (⟨"UpdateRobotModel", "isUnitHit", "(I)Z"⟩, 25) := ⟨⟨by decide +kernel, by decide +kernel⟩, List.mem_of_getElem? (i := 371) (by decide +kernel), List.mem_of_getElem? (i := 551) (by decide +kernel), List.mem_of_getElem? (i := 552) (by decide +kernel)⟩
theorem lw_p25 : lw_okq (⟨"UpdateRobotModel", "opens", "(I)I"⟩, 25) := ⟨⟨by decide +kernel, by decide +kernel⟩, List.mem_of_getElem? (i := 371) (by decide +kernel), List.mem_of_getElem? (i := 555) (by decide +kernel), List.mem_of_getElem? (i := 556) (by decide +kernel)⟩
theorem lw_p26 : lw_okq (⟨"UpdateRobotModel", "fill", "(I)V"⟩, 25) := ⟨⟨by decide +kernel, by decide +kernel⟩, List.mem_of_getElem? (i := 371) (by decide +kernel), List.mem_of_getElem? (i := 559) (by decide +kernel), List.mem_of_getElem? (i := 560) (by decide +kernel)⟩
theorem lw_p27 : lw_okq (⟨"UpdateRobotModel", "redo", "(I)V"⟩, 25) := ⟨⟨by decide +kernel, by decide +kernel⟩, List.mem_of_getElem? (i := 371) (by decide +kernel), List.mem_of_getElem? (i := 579) (by decide +kernel), List.mem_of_getElem? (i := 580) (by decide +kernel)⟩
def lw_privs_2 : List (MethodName × Nat) := [(⟨"UpdateRobotModel", "areOne", "(II)Z"⟩, 25), (⟨"UpdateRobotModel", "find", "(I)I"⟩, 25), (⟨"UpdateRobotModel", "wanting", "()I"⟩, 25), (⟨"UpdateRobotModel", "isDue", "(I)Z"⟩, 25), (⟨"UpdateRobotModel", "propose", "(I)I"⟩, 25), (⟨"UpdateRobotModel", "latest", "(II)I"⟩, 25), (⟨"UpdateRobotModel", "isSame", "(I)Z"⟩, 25), (⟨"UpdateRobotModel", "raised", "(I)I"⟩, 25), (⟨"UpdateRobotModel", "isUnitHit", "(I)Z"⟩, 25), (⟨"UpdateRobotModel", "opens", "(I)I"⟩, 25), (⟨"UpdateRobotModel", "fill", "(I)V"⟩, 25), (⟨"UpdateRobotModel", "redo", "(I)V"⟩, 25)]
theorem lw_r2 : ∀ q ∈ lw_privs_2, lw_okq q := List.forall_mem_cons.mpr ⟨lw_p16, List.forall_mem_cons.mpr ⟨lw_p17, List.forall_mem_cons.mpr ⟨lw_p18, List.forall_mem_cons.mpr ⟨lw_p19, List.forall_mem_cons.mpr ⟨lw_p20, List.forall_mem_cons.mpr ⟨lw_p21, List.forall_mem_cons.mpr ⟨lw_p22, List.forall_mem_cons.mpr ⟨lw_p23, List.forall_mem_cons.mpr ⟨lw_p24, List.forall_mem_cons.mpr ⟨lw_p25, List.forall_mem_cons.mpr ⟨lw_p26, List.forall_mem_cons.mpr ⟨lw_p27, fun _ h => absurd h List.not_mem_nil⟩⟩⟩⟩⟩⟩⟩⟩⟩⟩⟩⟩
def lw_privs : List (MethodName × Nat) := lw_privs_1 ++ (lw_privs_2)
def lw_tbl : List Cond := k2_sels lw_privs ++ tables_1
theorem lw_privs_ok : ∀ q ∈ lw_privs, lw_okq q := by
  show ∀ q ∈ lw_privs_1 ++ (lw_privs_2), lw_okq q
  exact List.forall_mem_append.mpr ⟨lw_r1, lw_r2⟩
def ub_T : List Cond := lw_tbl.filter goodWord
theorem ub_Tgood : ∀ w ∈ ub_T, goodWord w = true := fun w h => (List.mem_filter.mp h).2
theorem ub_good {y : MethodName} {b : ByteArray} {n : Nat} {r : Option FieldType} (h : Cond.code y b n r ∈ ub_T) : GoodIn ub_T (Cond.code y b n r :: ub_T) := fun w hw => by
  rcases List.mem_cons.mp hw with e | e
  · rw [e]; exact ⟨h, good_of_word (ub_Tgood _ h)⟩
  · exact ⟨e, good_of_word (ub_Tgood _ e)⟩
theorem ub_one {w : Cond} (h : w ∈ ub_T) : w ∈ ub_T ∧ ((w.onTables && w.keeps) = true ∨ ∃ ty, w = .arrayClass ty) := ⟨h, good_of_word (ub_Tgood _ h)⟩
theorem ub_goodV {own C : String} {ix : Nat} {y : MethodName} {b : ByteArray} {n : Nat} {r : Option FieldType} (h1 : Cond.methodLink own ix y ∈ ub_T) (h2 : Cond.instanceMethod y ∈ ub_T) (h3 : Cond.selects C y y ∈ ub_T) (h4 : Cond.initialized C ∈ ub_T) (h : Cond.code y b n r ∈ ub_T) : GoodIn ub_T (wsV own ix C y (Cond.code y b n r :: ub_T)) := fun w hw => by
  rcases List.mem_append.mp hw with e | e
  · rcases List.mem_cons.mp e with e | e
    · rw [e]; exact ub_one h1
    · rcases List.mem_cons.mp e with e | e
      · rw [e]; exact ub_one h2
      · rcases List.mem_cons.mp e with e | e
        · rw [e]; exact ub_one h3
        · rcases List.mem_cons.mp e with e | e
          · rw [e]; exact ub_one h4
          · cases e
  · exact ub_good h w e
theorem ub_goodS {own : String} {ix : Nat} {y : MethodName} {b : ByteArray} {n : Nat} {r : Option FieldType} (h1 : Cond.methodLink own ix y ∈ ub_T) (h2 : Cond.static y ∈ ub_T) (h3 : Cond.initialized own ∈ ub_T) (h : Cond.code y b n r ∈ ub_T) : GoodIn ub_T (wsS own ix y (Cond.code y b n r :: ub_T)) := fun w hw => by
  rcases List.mem_append.mp hw with e | e
  · rcases List.mem_cons.mp e with e | e
    · rw [e]; exact ub_one h1
    · rcases List.mem_cons.mp e with e | e
      · rw [e]; exact ub_one h2
      · rcases List.mem_cons.mp e with e | e
        · rw [e]; exact ub_one h3
        · cases e
  · exact ub_good h w e

abbrev urR_Rb : String := "UpdateRobot"
def urF_Rb : u_T := fun k => match k with
  | 0 => ("UpdateRobot", "limit", "I", true)
  | 1 => ("UpdateRobot", "names", "LUpdateRobot$Names;", true)
  | 2 => ("UpdateRobot", "solver", "LUpdateRobot$Solver;", true)
  | 3 => ("UpdateRobot", "proposals", "LUpdateRobot$Proposals;", true)
  | 4 => ("UpdateRobot", "clock", "I", false)
  | _ => ("UpdateRobot", "waited", "I", false)
def urt_Rb : Nat → FieldType := fun k => match k with
  | 0 => .int
  | 1 => .object "UpdateRobot$Names"
  | 2 => .object "UpdateRobot$Solver"
  | 3 => .object "UpdateRobot$Proposals"
  | 4 => .int
  | _ => .int
theorem urn_Rb : ∀ a, a < 6 → ∀ b, b < 6 → a ≠ b → (urF_Rb a).2.1 ≠ (urF_Rb b).2.1 := by decide +kernel
theorem urto_Rb : ∀ k, k < 6 → parseFieldDescriptor (urF_Rb k).2.2.1 = some (urt_Rb k) := by decide +kernel
theorem uri_Rb : ∀ w ∈ u_ws urR_Rb urF_Rb 6, w ∈ ub_T := by decide +kernel
abbrev urR_Nm : String := "UpdateRobot$Names"
def urF_Nm : u_T := fun k => match k with
  | 0 => ("UpdateRobot$Names", "count", "I", false)
  | 1 => ("UpdateRobot$Names", "repository", "[I", true)
  | 2 => ("UpdateRobot$Names", "versions", "[I", true)
  | 3 => ("UpdateRobot$Names", "had", "[I", true)
  | 4 => ("UpdateRobot$Names", "allowed", "[I", true)
  | 5 => ("UpdateRobot$Names", "every", "[I", true)
  | 6 => ("UpdateRobot$Names", "group", "[I", true)
  | 7 => ("UpdateRobot$Names", "advised", "[I", true)
  | 8 => ("UpdateRobot$Names", "dueAt", "[I", true)
  | 9 => ("UpdateRobot$Names", "kind", "[[I", true)
  | 10 => ("UpdateRobot$Names", "needed", "[[I", true)
  | _ => ("UpdateRobot$Names", "neededLeast", "[[I", true)
def urt_Nm : Nat → FieldType := fun k => match k with
  | 0 => .int
  | 1 => .array .int
  | 2 => .array .int
  | 3 => .array .int
  | 4 => .array .int
  | 5 => .array .int
  | 6 => .array .int
  | 7 => .array .int
  | 8 => .array .int
  | 9 => .array (.array .int)
  | 10 => .array (.array .int)
  | _ => .array (.array .int)
theorem urn_Nm : ∀ a, a < 12 → ∀ b, b < 12 → a ≠ b → (urF_Nm a).2.1 ≠ (urF_Nm b).2.1 := by decide +kernel
theorem urto_Nm : ∀ k, k < 12 → parseFieldDescriptor (urF_Nm k).2.2.1 = some (urt_Nm k) := by decide +kernel
theorem uri_Nm : ∀ w ∈ u_ws urR_Nm urF_Nm 12, w ∈ ub_T := by decide +kernel
abbrev urR_So : String := "UpdateRobot$Solver"
def urF_So : u_T := fun k => match k with
  | 0 => ("UpdateRobot$Solver", "targets", "[I", true)
  | _ => ("UpdateRobot$Solver", "raised", "[I", true)
def urt_So : Nat → FieldType := fun k => match k with
  | 0 => .array .int
  | _ => .array .int
theorem urn_So : ∀ a, a < 2 → ∀ b, b < 2 → a ≠ b → (urF_So a).2.1 ≠ (urF_So b).2.1 := by decide +kernel
theorem urto_So : ∀ k, k < 2 → parseFieldDescriptor (urF_So k).2.2.1 = some (urt_So k) := by decide +kernel
theorem uri_So : ∀ w ∈ u_ws urR_So urF_So 2, w ∈ ub_T := by decide +kernel
abbrev urR_Pr : String := "UpdateRobot$Proposals"
def urF_Pr : u_T := fun k => match k with
  | 0 => ("UpdateRobot$Proposals", "count", "I", false)
  | 1 => ("UpdateRobot$Proposals", "state", "[I", true)
  | 2 => ("UpdateRobot$Proposals", "chief", "[I", true)
  | 3 => ("UpdateRobot$Proposals", "redone", "[I", true)
  | 4 => ("UpdateRobot$Proposals", "openedAt", "[I", true)
  | 5 => ("UpdateRobot$Proposals", "hit", "[Z", true)
  | _ => ("UpdateRobot$Proposals", "raised", "[[I", true)
def urt_Pr : Nat → FieldType := fun k => match k with
  | 0 => .int
  | 1 => .array .int
  | 2 => .array .int
  | 3 => .array .int
  | 4 => .array .int
  | 5 => .array .boolean
  | _ => .array (.array .int)
theorem urn_Pr : ∀ a, a < 7 → ∀ b, b < 7 → a ≠ b → (urF_Pr a).2.1 ≠ (urF_Pr b).2.1 := by decide +kernel
theorem urto_Pr : ∀ k, k < 7 → parseFieldDescriptor (urF_Pr k).2.2.1 = some (urt_Pr k) := by decide +kernel
theorem uri_Pr : ∀ w ∈ u_ws urR_Pr urF_Pr 7, w ∈ ub_T := by decide +kernel
abbrev rfR_Md : String := "UpdateRobotModel"
def rfF_Md : u_T := fun k => match k with
  | 0 => ("UpdateRobotModel", "limit", "I", true)
  | 1 => ("UpdateRobotModel", "code", "I", false)
  | 2 => ("UpdateRobotModel", "clock", "I", false)
  | 3 => ("UpdateRobotModel", "names", "I", false)
  | 4 => ("UpdateRobotModel", "proposals", "I", false)
  | 5 => ("UpdateRobotModel", "waited", "I", false)
  | 6 => ("UpdateRobotModel", "repository", "[I", true)
  | 7 => ("UpdateRobotModel", "newest", "[I", true)
  | 8 => ("UpdateRobotModel", "has", "[I", true)
  | 9 => ("UpdateRobotModel", "allowed", "[I", true)
  | 10 => ("UpdateRobotModel", "every", "[I", true)
  | 11 => ("UpdateRobotModel", "group", "[I", true)
  | 12 => ("UpdateRobotModel", "advised", "[I", true)
  | 13 => ("UpdateRobotModel", "lastDue", "[I", true)
  | 14 => ("UpdateRobotModel", "kind", "[I", true)
  | 15 => ("UpdateRobotModel", "needOf", "[I", true)
  | 16 => ("UpdateRobotModel", "needLeast", "[I", true)
  | 17 => ("UpdateRobotModel", "trial", "[I", true)
  | 18 => ("UpdateRobotModel", "culprit", "I", false)
  | 19 => ("UpdateRobotModel", "state", "[I", true)
  | 20 => ("UpdateRobotModel", "itsChief", "[I", true)
  | 21 => ("UpdateRobotModel", "redone", "[I", true)
  | 22 => ("UpdateRobotModel", "opened", "[I", true)
  | 23 => ("UpdateRobotModel", "wasHit", "[I", true)
  | _ => ("UpdateRobotModel", "target", "[I", true)
def rft_Md : Nat → FieldType := fun k => match k with
  | 0 => .int
  | 1 => .int
  | 2 => .int
  | 3 => .int
  | 4 => .int
  | 5 => .int
  | 6 => .array .int
  | 7 => .array .int
  | 8 => .array .int
  | 9 => .array .int
  | 10 => .array .int
  | 11 => .array .int
  | 12 => .array .int
  | 13 => .array .int
  | 14 => .array .int
  | 15 => .array .int
  | 16 => .array .int
  | 17 => .array .int
  | 18 => .int
  | 19 => .array .int
  | 20 => .array .int
  | 21 => .array .int
  | 22 => .array .int
  | 23 => .array .int
  | _ => .array .int
theorem rfn_Md : ∀ a, a < 25 → ∀ b, b < 25 → a ≠ b → (rfF_Md a).2.1 ≠ (rfF_Md b).2.1 := by decide +kernel
theorem rfto_Md : ∀ k, k < 25 → parseFieldDescriptor (rfF_Md k).2.2.1 = some (rft_Md k) := by decide +kernel
theorem rfi_Md : ∀ w ∈ u_ws rfR_Md rfF_Md 25, w ∈ ub_T := by decide +kernel
abbrev ub_cl : List vw_C := [(urR_Rb, urF_Rb, 6), (urR_Nm, urF_Nm, 12), (urR_So, urF_So, 2), (urR_Pr, urF_Pr, 7), (rfR_Md, rfF_Md, 25)]
set_option maxRecDepth 100000 in
theorem ubw_29 : Cond.initialized "UpdateRobot" ∈ ub_T := List.mem_filter.mpr ⟨List.mem_of_getElem? (i := 29) (by decide +kernel), rfl⟩
set_option maxRecDepth 100000 in
theorem ubw_30 : Cond.initialized "java/lang/Math" ∈ ub_T := List.mem_filter.mpr ⟨List.mem_of_getElem? (i := 30) (by decide +kernel), rfl⟩
set_option maxRecDepth 100000 in
theorem ubw_31 : Cond.initialized "UpdateRobot$Names" ∈ ub_T := List.mem_filter.mpr ⟨List.mem_of_getElem? (i := 31) (by decide +kernel), rfl⟩
set_option maxRecDepth 100000 in
theorem ubw_32 : Cond.initialized "UpdateRobot$Solver" ∈ ub_T := List.mem_filter.mpr ⟨List.mem_of_getElem? (i := 32) (by decide +kernel), rfl⟩
set_option maxRecDepth 100000 in
theorem ubw_33 : Cond.initialized "UpdateRobot$Proposals" ∈ ub_T := List.mem_filter.mpr ⟨List.mem_of_getElem? (i := 33) (by decide +kernel), rfl⟩
set_option maxRecDepth 100000 in
theorem ubw_34 : Cond.initialized "UpdateRobotModel" ∈ ub_T := List.mem_filter.mpr ⟨List.mem_of_getElem? (i := 34) (by decide +kernel), rfl⟩
set_option maxRecDepth 100000 in
theorem ubw_39 : Cond.code ⟨"UpdateRobot", "<init>", "(I)V"⟩ prog_1_method_1_code 2 none ∈ ub_T := List.mem_filter.mpr ⟨List.mem_of_getElem? (i := 39) rfl, rfl⟩
set_option maxRecDepth 100000 in
theorem ubw_40 : Cond.methodLink "UpdateRobot" 1 ⟨"java/lang/Object", "<init>", "()V"⟩ ∈ ub_T := List.mem_filter.mpr ⟨List.mem_of_getElem? (i := 40) (by decide +kernel), rfl⟩
set_option maxRecDepth 100000 in
theorem ubw_41 : Cond.instanceMethod ⟨"java/lang/Object", "<init>", "()V"⟩ ∈ ub_T := List.mem_filter.mpr ⟨List.mem_of_getElem? (i := 41) (by decide +kernel), rfl⟩
set_option maxRecDepth 100000 in
theorem ubw_42 : Cond.code ⟨"java/lang/Object", "<init>", "()V"⟩ object_method_1_code 1 none ∈ ub_T := List.mem_filter.mpr ⟨List.mem_of_getElem? (i := 42) rfl, rfl⟩
set_option maxRecDepth 100000 in
theorem ubw_43 : Cond.methodLink "UpdateRobot" 9 ⟨"java/lang/Math", "min", "(II)I"⟩ ∈ ub_T := List.mem_filter.mpr ⟨List.mem_of_getElem? (i := 43) (by decide +kernel), rfl⟩
set_option maxRecDepth 100000 in
theorem ubw_44 : Cond.static ⟨"java/lang/Math", "min", "(II)I"⟩ ∈ ub_T := List.mem_filter.mpr ⟨List.mem_of_getElem? (i := 44) (by decide +kernel), rfl⟩
set_option maxRecDepth 100000 in
theorem ubw_45 : Cond.code ⟨"java/lang/Math", "min", "(II)I"⟩ prog_7_method_69_code 2 (some .int) ∈ ub_T := List.mem_filter.mpr ⟨List.mem_of_getElem? (i := 45) rfl, rfl⟩
set_option maxRecDepth 100000 in
theorem ubw_46 : Cond.methodLink "UpdateRobot" 15 ⟨"java/lang/Math", "max", "(II)I"⟩ ∈ ub_T := List.mem_filter.mpr ⟨List.mem_of_getElem? (i := 46) (by decide +kernel), rfl⟩
set_option maxRecDepth 100000 in
theorem ubw_47 : Cond.static ⟨"java/lang/Math", "max", "(II)I"⟩ ∈ ub_T := List.mem_filter.mpr ⟨List.mem_of_getElem? (i := 47) (by decide +kernel), rfl⟩
set_option maxRecDepth 100000 in
theorem ubw_48 : Cond.code ⟨"java/lang/Math", "max", "(II)I"⟩ prog_7_method_65_code 2 (some .int) ∈ ub_T := List.mem_filter.mpr ⟨List.mem_of_getElem? (i := 48) rfl, rfl⟩
set_option maxRecDepth 100000 in
theorem ubw_49 : Cond.classLink "UpdateRobot" 22 "UpdateRobot$Names" ∈ ub_T := List.mem_filter.mpr ⟨List.mem_of_getElem? (i := 49) (by decide +kernel), rfl⟩
set_option maxRecDepth 100000 in
theorem ubw_50 : Cond.instantiable "UpdateRobot$Names" 12 ∈ ub_T := List.mem_filter.mpr ⟨List.mem_of_getElem? (i := 50) (by decide +kernel), rfl⟩
set_option maxRecDepth 100000 in
theorem ubw_51 : Cond.methodLink "UpdateRobot" 24 ⟨"UpdateRobot$Names", "<init>", "()V"⟩ ∈ ub_T := List.mem_filter.mpr ⟨List.mem_of_getElem? (i := 51) (by decide +kernel), rfl⟩
set_option maxRecDepth 100000 in
theorem ubw_52 : Cond.instanceMethod ⟨"UpdateRobot$Names", "<init>", "()V"⟩ ∈ ub_T := List.mem_filter.mpr ⟨List.mem_of_getElem? (i := 52) (by decide +kernel), rfl⟩
set_option maxRecDepth 100000 in
theorem ubw_53 : Cond.code ⟨"UpdateRobot$Names", "<init>", "()V"⟩ prog_2_method_1_code 1 none ∈ ub_T := List.mem_filter.mpr ⟨List.mem_of_getElem? (i := 53) rfl, rfl⟩
set_option maxRecDepth 100000 in
theorem ubw_54 : Cond.methodLink "UpdateRobot$Names" 3 ⟨"java/lang/Object", "<init>", "()V"⟩ ∈ ub_T := List.mem_filter.mpr ⟨List.mem_of_getElem? (i := 54) (by decide +kernel), rfl⟩
set_option maxRecDepth 100000 in
theorem ubw_55 : Cond.classLink "UpdateRobot$Names" 40 "[[I" ∈ ub_T := List.mem_filter.mpr ⟨List.mem_of_getElem? (i := 55) (by decide +kernel), rfl⟩
set_option maxRecDepth 100000 in
theorem ubw_57 : Cond.fieldLink "UpdateRobot$Names" 9 "UpdateRobot$Names" "count" "I" ∈ ub_T := List.mem_filter.mpr ⟨List.mem_of_getElem? (i := 57) (by decide +kernel), rfl⟩
set_option maxRecDepth 100000 in
theorem ubw_58 : Cond.fieldLink "UpdateRobot$Solver" 42 "UpdateRobot$Names" "count" "I" ∈ ub_T := List.mem_filter.mpr ⟨List.mem_of_getElem? (i := 58) (by decide +kernel), rfl⟩
set_option maxRecDepth 100000 in
theorem ubw_59 : Cond.fieldLink "UpdateRobot" 108 "UpdateRobot$Names" "count" "I" ∈ ub_T := List.mem_filter.mpr ⟨List.mem_of_getElem? (i := 59) (by decide +kernel), rfl⟩
set_option maxRecDepth 100000 in
theorem ubw_60 : Cond.fieldLink "UpdateRobot$Names" 15 "UpdateRobot$Names" "repository" "[I" ∈ ub_T := List.mem_filter.mpr ⟨List.mem_of_getElem? (i := 60) (by decide +kernel), rfl⟩
set_option maxRecDepth 100000 in
theorem ubw_61 : Cond.fieldLink "UpdateRobot" 184 "UpdateRobot$Names" "repository" "[I" ∈ ub_T := List.mem_filter.mpr ⟨List.mem_of_getElem? (i := 61) (by decide +kernel), rfl⟩
set_option maxRecDepth 100000 in
theorem ubw_62 : Cond.fieldLink "UpdateRobot$Names" 19 "UpdateRobot$Names" "versions" "[I" ∈ ub_T := List.mem_filter.mpr ⟨List.mem_of_getElem? (i := 62) (by decide +kernel), rfl⟩
set_option maxRecDepth 100000 in
theorem ubw_63 : Cond.fieldLink "UpdateRobot$Names" 22 "UpdateRobot$Names" "had" "[I" ∈ ub_T := List.mem_filter.mpr ⟨List.mem_of_getElem? (i := 63) (by decide +kernel), rfl⟩
set_option maxRecDepth 100000 in
theorem ubw_64 : Cond.fieldLink "UpdateRobot$Solver" 52 "UpdateRobot$Names" "had" "[I" ∈ ub_T := List.mem_filter.mpr ⟨List.mem_of_getElem? (i := 64) (by decide +kernel), rfl⟩
set_option maxRecDepth 100000 in
theorem ubw_65 : Cond.fieldLink "UpdateRobot" 87 "UpdateRobot$Names" "had" "[I" ∈ ub_T := List.mem_filter.mpr ⟨List.mem_of_getElem? (i := 65) (by decide +kernel), rfl⟩
set_option maxRecDepth 100000 in
theorem ubw_66 : Cond.fieldLink "UpdateRobot$Names" 25 "UpdateRobot$Names" "allowed" "[I" ∈ ub_T := List.mem_filter.mpr ⟨List.mem_of_getElem? (i := 66) (by decide +kernel), rfl⟩
set_option maxRecDepth 100000 in
theorem ubw_67 : Cond.fieldLink "UpdateRobot" 74 "UpdateRobot$Names" "allowed" "[I" ∈ ub_T := List.mem_filter.mpr ⟨List.mem_of_getElem? (i := 67) (by decide +kernel), rfl⟩
set_option maxRecDepth 100000 in
theorem ubw_68 : Cond.fieldLink "UpdateRobot$Names" 28 "UpdateRobot$Names" "every" "[I" ∈ ub_T := List.mem_filter.mpr ⟨List.mem_of_getElem? (i := 68) (by decide +kernel), rfl⟩
set_option maxRecDepth 100000 in
theorem ubw_69 : Cond.fieldLink "UpdateRobot" 78 "UpdateRobot$Names" "every" "[I" ∈ ub_T := List.mem_filter.mpr ⟨List.mem_of_getElem? (i := 69) (by decide +kernel), rfl⟩
set_option maxRecDepth 100000 in
theorem ubw_70 : Cond.fieldLink "UpdateRobot$Names" 31 "UpdateRobot$Names" "group" "[I" ∈ ub_T := List.mem_filter.mpr ⟨List.mem_of_getElem? (i := 70) (by decide +kernel), rfl⟩
set_option maxRecDepth 100000 in
theorem ubw_71 : Cond.fieldLink "UpdateRobot" 81 "UpdateRobot$Names" "group" "[I" ∈ ub_T := List.mem_filter.mpr ⟨List.mem_of_getElem? (i := 71) (by decide +kernel), rfl⟩
set_option maxRecDepth 100000 in
theorem ubw_72 : Cond.fieldLink "UpdateRobot$Names" 34 "UpdateRobot$Names" "advised" "[I" ∈ ub_T := List.mem_filter.mpr ⟨List.mem_of_getElem? (i := 72) (by decide +kernel), rfl⟩
set_option maxRecDepth 100000 in
theorem ubw_73 : Cond.fieldLink "UpdateRobot" 84 "UpdateRobot$Names" "advised" "[I" ∈ ub_T := List.mem_filter.mpr ⟨List.mem_of_getElem? (i := 73) (by decide +kernel), rfl⟩
set_option maxRecDepth 100000 in
theorem ubw_74 : Cond.fieldLink "UpdateRobot$Names" 37 "UpdateRobot$Names" "dueAt" "[I" ∈ ub_T := List.mem_filter.mpr ⟨List.mem_of_getElem? (i := 74) (by decide +kernel), rfl⟩
set_option maxRecDepth 100000 in
theorem ubw_75 : Cond.fieldLink "UpdateRobot" 112 "UpdateRobot$Names" "dueAt" "[I" ∈ ub_T := List.mem_filter.mpr ⟨List.mem_of_getElem? (i := 75) (by decide +kernel), rfl⟩
set_option maxRecDepth 100000 in
theorem ubw_76 : Cond.fieldLink "UpdateRobot$Names" 42 "UpdateRobot$Names" "kind" "[[I" ∈ ub_T := List.mem_filter.mpr ⟨List.mem_of_getElem? (i := 76) (by decide +kernel), rfl⟩
set_option maxRecDepth 100000 in
theorem ubw_77 : Cond.fieldLink "UpdateRobot$Names" 45 "UpdateRobot$Names" "needed" "[[I" ∈ ub_T := List.mem_filter.mpr ⟨List.mem_of_getElem? (i := 77) (by decide +kernel), rfl⟩
set_option maxRecDepth 100000 in
theorem ubw_78 : Cond.fieldLink "UpdateRobot$Solver" 26 "UpdateRobot$Names" "needed" "[[I" ∈ ub_T := List.mem_filter.mpr ⟨List.mem_of_getElem? (i := 78) (by decide +kernel), rfl⟩
set_option maxRecDepth 100000 in
theorem ubw_79 : Cond.fieldLink "UpdateRobot" 67 "UpdateRobot$Names" "needed" "[[I" ∈ ub_T := List.mem_filter.mpr ⟨List.mem_of_getElem? (i := 79) (by decide +kernel), rfl⟩
set_option maxRecDepth 100000 in
theorem ubw_80 : Cond.fieldLink "UpdateRobot$Names" 48 "UpdateRobot$Names" "neededLeast" "[[I" ∈ ub_T := List.mem_filter.mpr ⟨List.mem_of_getElem? (i := 80) (by decide +kernel), rfl⟩
set_option maxRecDepth 100000 in
theorem ubw_81 : Cond.fieldLink "UpdateRobot$Solver" 32 "UpdateRobot$Names" "neededLeast" "[[I" ∈ ub_T := List.mem_filter.mpr ⟨List.mem_of_getElem? (i := 81) (by decide +kernel), rfl⟩
set_option maxRecDepth 100000 in
theorem ubw_82 : Cond.fieldLink "UpdateRobot" 71 "UpdateRobot$Names" "neededLeast" "[[I" ∈ ub_T := List.mem_filter.mpr ⟨List.mem_of_getElem? (i := 82) (by decide +kernel), rfl⟩
set_option maxRecDepth 100000 in
theorem ubw_108 : Cond.arrayClass .int ∈ ub_T := List.mem_filter.mpr ⟨List.mem_of_getElem? (i := 108) (by decide +kernel), rfl⟩
set_option maxRecDepth 100000 in
theorem ubw_109 : Cond.classLink "UpdateRobot" 29 "UpdateRobot$Solver" ∈ ub_T := List.mem_filter.mpr ⟨List.mem_of_getElem? (i := 109) (by decide +kernel), rfl⟩
set_option maxRecDepth 100000 in
theorem ubw_110 : Cond.instantiable "UpdateRobot$Solver" 2 ∈ ub_T := List.mem_filter.mpr ⟨List.mem_of_getElem? (i := 110) (by decide +kernel), rfl⟩
set_option maxRecDepth 100000 in
theorem ubw_111 : Cond.methodLink "UpdateRobot" 31 ⟨"UpdateRobot$Solver", "<init>", "()V"⟩ ∈ ub_T := List.mem_filter.mpr ⟨List.mem_of_getElem? (i := 111) (by decide +kernel), rfl⟩
set_option maxRecDepth 100000 in
theorem ubw_112 : Cond.instanceMethod ⟨"UpdateRobot$Solver", "<init>", "()V"⟩ ∈ ub_T := List.mem_filter.mpr ⟨List.mem_of_getElem? (i := 112) (by decide +kernel), rfl⟩
set_option maxRecDepth 100000 in
theorem ubw_113 : Cond.code ⟨"UpdateRobot$Solver", "<init>", "()V"⟩ prog_4_method_1_code 1 none ∈ ub_T := List.mem_filter.mpr ⟨List.mem_of_getElem? (i := 113) rfl, rfl⟩
set_option maxRecDepth 100000 in
theorem ubw_114 : Cond.methodLink "UpdateRobot$Solver" 3 ⟨"java/lang/Object", "<init>", "()V"⟩ ∈ ub_T := List.mem_filter.mpr ⟨List.mem_of_getElem? (i := 114) (by decide +kernel), rfl⟩
set_option maxRecDepth 100000 in
theorem ubw_115 : Cond.fieldLink "UpdateRobot$Solver" 9 "UpdateRobot$Solver" "targets" "[I" ∈ ub_T := List.mem_filter.mpr ⟨List.mem_of_getElem? (i := 115) (by decide +kernel), rfl⟩
set_option maxRecDepth 100000 in
theorem ubw_116 : Cond.fieldLink "UpdateRobot$Solver" 15 "UpdateRobot$Solver" "raised" "[I" ∈ ub_T := List.mem_filter.mpr ⟨List.mem_of_getElem? (i := 116) (by decide +kernel), rfl⟩
set_option maxRecDepth 100000 in
theorem ubw_117 : Cond.fieldLink "UpdateRobot" 165 "UpdateRobot$Solver" "raised" "[I" ∈ ub_T := List.mem_filter.mpr ⟨List.mem_of_getElem? (i := 117) (by decide +kernel), rfl⟩
set_option maxRecDepth 100000 in
theorem ubw_123 : Cond.classLink "UpdateRobot" 36 "UpdateRobot$Proposals" ∈ ub_T := List.mem_filter.mpr ⟨List.mem_of_getElem? (i := 123) (by decide +kernel), rfl⟩
set_option maxRecDepth 100000 in
theorem ubw_124 : Cond.instantiable "UpdateRobot$Proposals" 7 ∈ ub_T := List.mem_filter.mpr ⟨List.mem_of_getElem? (i := 124) (by decide +kernel), rfl⟩
set_option maxRecDepth 100000 in
theorem ubw_125 : Cond.methodLink "UpdateRobot" 38 ⟨"UpdateRobot$Proposals", "<init>", "()V"⟩ ∈ ub_T := List.mem_filter.mpr ⟨List.mem_of_getElem? (i := 125) (by decide +kernel), rfl⟩
set_option maxRecDepth 100000 in
theorem ubw_126 : Cond.instanceMethod ⟨"UpdateRobot$Proposals", "<init>", "()V"⟩ ∈ ub_T := List.mem_filter.mpr ⟨List.mem_of_getElem? (i := 126) (by decide +kernel), rfl⟩
set_option maxRecDepth 100000 in
theorem ubw_127 : Cond.code ⟨"UpdateRobot$Proposals", "<init>", "()V"⟩ prog_3_method_1_code 1 none ∈ ub_T := List.mem_filter.mpr ⟨List.mem_of_getElem? (i := 127) rfl, rfl⟩
set_option maxRecDepth 100000 in
theorem ubw_128 : Cond.methodLink "UpdateRobot$Proposals" 3 ⟨"java/lang/Object", "<init>", "()V"⟩ ∈ ub_T := List.mem_filter.mpr ⟨List.mem_of_getElem? (i := 128) (by decide +kernel), rfl⟩
set_option maxRecDepth 100000 in
theorem ubw_129 : Cond.classLink "UpdateRobot$Proposals" 32 "[[I" ∈ ub_T := List.mem_filter.mpr ⟨List.mem_of_getElem? (i := 129) (by decide +kernel), rfl⟩
set_option maxRecDepth 100000 in
theorem ubw_130 : Cond.fieldLink "UpdateRobot$Proposals" 9 "UpdateRobot$Proposals" "count" "I" ∈ ub_T := List.mem_filter.mpr ⟨List.mem_of_getElem? (i := 130) (by decide +kernel), rfl⟩
set_option maxRecDepth 100000 in
theorem ubw_131 : Cond.fieldLink "UpdateRobot" 105 "UpdateRobot$Proposals" "count" "I" ∈ ub_T := List.mem_filter.mpr ⟨List.mem_of_getElem? (i := 131) (by decide +kernel), rfl⟩
set_option maxRecDepth 100000 in
theorem ubw_132 : Cond.fieldLink "UpdateRobot$Proposals" 15 "UpdateRobot$Proposals" "state" "[I" ∈ ub_T := List.mem_filter.mpr ⟨List.mem_of_getElem? (i := 132) (by decide +kernel), rfl⟩
set_option maxRecDepth 100000 in
theorem ubw_133 : Cond.fieldLink "UpdateRobot" 120 "UpdateRobot$Proposals" "state" "[I" ∈ ub_T := List.mem_filter.mpr ⟨List.mem_of_getElem? (i := 133) (by decide +kernel), rfl⟩
set_option maxRecDepth 100000 in
theorem ubw_134 : Cond.fieldLink "UpdateRobot$Proposals" 19 "UpdateRobot$Proposals" "chief" "[I" ∈ ub_T := List.mem_filter.mpr ⟨List.mem_of_getElem? (i := 134) (by decide +kernel), rfl⟩
set_option maxRecDepth 100000 in
theorem ubw_135 : Cond.fieldLink "UpdateRobot" 123 "UpdateRobot$Proposals" "chief" "[I" ∈ ub_T := List.mem_filter.mpr ⟨List.mem_of_getElem? (i := 135) (by decide +kernel), rfl⟩
set_option maxRecDepth 100000 in
theorem ubw_136 : Cond.fieldLink "UpdateRobot$Proposals" 22 "UpdateRobot$Proposals" "redone" "[I" ∈ ub_T := List.mem_filter.mpr ⟨List.mem_of_getElem? (i := 136) (by decide +kernel), rfl⟩
set_option maxRecDepth 100000 in
theorem ubw_137 : Cond.fieldLink "UpdateRobot" 126 "UpdateRobot$Proposals" "redone" "[I" ∈ ub_T := List.mem_filter.mpr ⟨List.mem_of_getElem? (i := 137) (by decide +kernel), rfl⟩
set_option maxRecDepth 100000 in
theorem ubw_138 : Cond.fieldLink "UpdateRobot$Proposals" 25 "UpdateRobot$Proposals" "openedAt" "[I" ∈ ub_T := List.mem_filter.mpr ⟨List.mem_of_getElem? (i := 138) (by decide +kernel), rfl⟩
set_option maxRecDepth 100000 in
theorem ubw_139 : Cond.fieldLink "UpdateRobot" 129 "UpdateRobot$Proposals" "openedAt" "[I" ∈ ub_T := List.mem_filter.mpr ⟨List.mem_of_getElem? (i := 139) (by decide +kernel), rfl⟩
set_option maxRecDepth 100000 in
theorem ubw_140 : Cond.fieldLink "UpdateRobot$Proposals" 28 "UpdateRobot$Proposals" "hit" "[Z" ∈ ub_T := List.mem_filter.mpr ⟨List.mem_of_getElem? (i := 140) (by decide +kernel), rfl⟩
set_option maxRecDepth 100000 in
theorem ubw_141 : Cond.fieldLink "UpdateRobot" 132 "UpdateRobot$Proposals" "hit" "[Z" ∈ ub_T := List.mem_filter.mpr ⟨List.mem_of_getElem? (i := 141) (by decide +kernel), rfl⟩
set_option maxRecDepth 100000 in
theorem ubw_142 : Cond.fieldLink "UpdateRobot$Proposals" 34 "UpdateRobot$Proposals" "raised" "[[I" ∈ ub_T := List.mem_filter.mpr ⟨List.mem_of_getElem? (i := 142) (by decide +kernel), rfl⟩
set_option maxRecDepth 100000 in
theorem ubw_143 : Cond.fieldLink "UpdateRobot" 136 "UpdateRobot$Proposals" "raised" "[[I" ∈ ub_T := List.mem_filter.mpr ⟨List.mem_of_getElem? (i := 143) (by decide +kernel), rfl⟩
set_option maxRecDepth 100000 in
theorem ubw_159 : Cond.arrayClass .boolean ∈ ub_T := List.mem_filter.mpr ⟨List.mem_of_getElem? (i := 159) (by decide +kernel), rfl⟩
set_option maxRecDepth 100000 in
theorem ubw_160 : Cond.fieldLink "UpdateRobot" 18 "UpdateRobot" "limit" "I" ∈ ub_T := List.mem_filter.mpr ⟨List.mem_of_getElem? (i := 160) (by decide +kernel), rfl⟩
set_option maxRecDepth 100000 in
theorem ubw_161 : Cond.fieldLink "UpdateRobot" 25 "UpdateRobot" "names" "LUpdateRobot$Names;" ∈ ub_T := List.mem_filter.mpr ⟨List.mem_of_getElem? (i := 161) (by decide +kernel), rfl⟩
set_option maxRecDepth 100000 in
theorem ubw_162 : Cond.fieldLink "UpdateRobot" 32 "UpdateRobot" "solver" "LUpdateRobot$Solver;" ∈ ub_T := List.mem_filter.mpr ⟨List.mem_of_getElem? (i := 162) (by decide +kernel), rfl⟩
set_option maxRecDepth 100000 in
theorem ubw_163 : Cond.fieldLink "UpdateRobot" 39 "UpdateRobot" "proposals" "LUpdateRobot$Proposals;" ∈ ub_T := List.mem_filter.mpr ⟨List.mem_of_getElem? (i := 163) (by decide +kernel), rfl⟩
set_option maxRecDepth 100000 in
theorem ubw_164 : Cond.fieldLink "UpdateRobot" 43 "UpdateRobot" "clock" "I" ∈ ub_T := List.mem_filter.mpr ⟨List.mem_of_getElem? (i := 164) (by decide +kernel), rfl⟩
set_option maxRecDepth 100000 in
theorem ubw_165 : Cond.fieldLink "UpdateRobot" 46 "UpdateRobot" "waited" "I" ∈ ub_T := List.mem_filter.mpr ⟨List.mem_of_getElem? (i := 165) (by decide +kernel), rfl⟩
set_option maxRecDepth 100000 in
theorem ubw_182 : Cond.code ⟨"UpdateRobot", "name", "(I)I"⟩ prog_1_method_2_code 2 (some .int) ∈ ub_T := List.mem_filter.mpr ⟨List.mem_of_getElem? (i := 182) rfl, rfl⟩
set_option maxRecDepth 100000 in
theorem ubw_183 : Cond.methodLink "UpdateRobot" 49 ⟨"UpdateRobot", "isRepository", "(I)Z"⟩ ∈ ub_T := List.mem_filter.mpr ⟨List.mem_of_getElem? (i := 183) (by decide +kernel), rfl⟩
set_option maxRecDepth 100000 in
theorem ubw_184 : Cond.static ⟨"UpdateRobot", "isRepository", "(I)Z"⟩ ∈ ub_T := List.mem_filter.mpr ⟨List.mem_of_getElem? (i := 184) (by decide +kernel), rfl⟩
set_option maxRecDepth 100000 in
theorem ubw_185 : Cond.code ⟨"UpdateRobot", "isRepository", "(I)Z"⟩ prog_1_method_18_code 1 (some .boolean) ∈ ub_T := List.mem_filter.mpr ⟨List.mem_of_getElem? (i := 185) rfl, rfl⟩
set_option maxRecDepth 100000 in
theorem ubw_186 : Cond.methodLink "UpdateRobot" 53 ⟨"UpdateRobot$Names", "add", "(I)I"⟩ ∈ ub_T := List.mem_filter.mpr ⟨List.mem_of_getElem? (i := 186) (by decide +kernel), rfl⟩
set_option maxRecDepth 100000 in
theorem ubw_187 : Cond.instanceMethod ⟨"UpdateRobot$Names", "add", "(I)I"⟩ ∈ ub_T := List.mem_filter.mpr ⟨List.mem_of_getElem? (i := 187) (by decide +kernel), rfl⟩
set_option maxRecDepth 100000 in
theorem ubw_188 : Cond.selects "UpdateRobot$Names" ⟨"UpdateRobot$Names", "add", "(I)I"⟩ ⟨"UpdateRobot$Names", "add", "(I)I"⟩ ∈ ub_T := List.mem_filter.mpr ⟨List.mem_of_getElem? (i := 188) (by decide +kernel), rfl⟩
set_option maxRecDepth 100000 in
theorem ubw_189 : Cond.code ⟨"UpdateRobot$Names", "add", "(I)I"⟩ prog_2_method_4_code 3 (some .int) ∈ ub_T := List.mem_filter.mpr ⟨List.mem_of_getElem? (i := 189) rfl, rfl⟩
set_option maxRecDepth 100000 in
theorem ubw_193 : Cond.code ⟨"UpdateRobot", "newer", "(II)I"⟩ prog_1_method_3_code 3 (some .int) ∈ ub_T := List.mem_filter.mpr ⟨List.mem_of_getElem? (i := 193) rfl, rfl⟩
set_option maxRecDepth 100000 in
theorem ubw_194 : Cond.methodLink "UpdateRobot" 57 ⟨"UpdateRobot$Names", "isKnown", "(I)Z"⟩ ∈ ub_T := List.mem_filter.mpr ⟨List.mem_of_getElem? (i := 194) (by decide +kernel), rfl⟩
set_option maxRecDepth 100000 in
theorem ubw_195 : Cond.instanceMethod ⟨"UpdateRobot$Names", "isKnown", "(I)Z"⟩ ∈ ub_T := List.mem_filter.mpr ⟨List.mem_of_getElem? (i := 195) (by decide +kernel), rfl⟩
set_option maxRecDepth 100000 in
theorem ubw_196 : Cond.selects "UpdateRobot$Names" ⟨"UpdateRobot$Names", "isKnown", "(I)Z"⟩ ⟨"UpdateRobot$Names", "isKnown", "(I)Z"⟩ ∈ ub_T := List.mem_filter.mpr ⟨List.mem_of_getElem? (i := 196) (by decide +kernel), rfl⟩
set_option maxRecDepth 100000 in
theorem ubw_197 : Cond.code ⟨"UpdateRobot$Names", "isKnown", "(I)Z"⟩ prog_2_method_2_code 2 (some .boolean) ∈ ub_T := List.mem_filter.mpr ⟨List.mem_of_getElem? (i := 197) rfl, rfl⟩
set_option maxRecDepth 100000 in
theorem ubw_198 : Cond.methodLink "UpdateRobot" 60 ⟨"UpdateRobot$Names", "addVersion", "(II)I"⟩ ∈ ub_T := List.mem_filter.mpr ⟨List.mem_of_getElem? (i := 198) (by decide +kernel), rfl⟩
set_option maxRecDepth 100000 in
theorem ubw_199 : Cond.instanceMethod ⟨"UpdateRobot$Names", "addVersion", "(II)I"⟩ ∈ ub_T := List.mem_filter.mpr ⟨List.mem_of_getElem? (i := 199) (by decide +kernel), rfl⟩
set_option maxRecDepth 100000 in
theorem ubw_200 : Cond.selects "UpdateRobot$Names" ⟨"UpdateRobot$Names", "addVersion", "(II)I"⟩ ⟨"UpdateRobot$Names", "addVersion", "(II)I"⟩ ∈ ub_T := List.mem_filter.mpr ⟨List.mem_of_getElem? (i := 200) (by decide +kernel), rfl⟩
set_option maxRecDepth 100000 in
theorem ubw_201 : Cond.code ⟨"UpdateRobot$Names", "addVersion", "(II)I"⟩ prog_2_method_5_code 4 (some .int) ∈ ub_T := List.mem_filter.mpr ⟨List.mem_of_getElem? (i := 201) rfl, rfl⟩
set_option maxRecDepth 100000 in
theorem ubw_205 : Cond.code ⟨"UpdateRobot", "needs", "(IIII)Z"⟩ prog_1_method_4_code 5 (some .boolean) ∈ ub_T := List.mem_filter.mpr ⟨List.mem_of_getElem? (i := 205) rfl, rfl⟩
set_option maxRecDepth 100000 in
theorem ubw_206 : Cond.methodLink "UpdateRobot" 63 ⟨"UpdateRobot$Names", "hasVersion", "(II)Z"⟩ ∈ ub_T := List.mem_filter.mpr ⟨List.mem_of_getElem? (i := 206) (by decide +kernel), rfl⟩
set_option maxRecDepth 100000 in
theorem ubw_207 : Cond.instanceMethod ⟨"UpdateRobot$Names", "hasVersion", "(II)Z"⟩ ∈ ub_T := List.mem_filter.mpr ⟨List.mem_of_getElem? (i := 207) (by decide +kernel), rfl⟩
set_option maxRecDepth 100000 in
theorem ubw_208 : Cond.selects "UpdateRobot$Names" ⟨"UpdateRobot$Names", "hasVersion", "(II)Z"⟩ ⟨"UpdateRobot$Names", "hasVersion", "(II)Z"⟩ ∈ ub_T := List.mem_filter.mpr ⟨List.mem_of_getElem? (i := 208) (by decide +kernel), rfl⟩
set_option maxRecDepth 100000 in
theorem ubw_209 : Cond.code ⟨"UpdateRobot$Names", "hasVersion", "(II)Z"⟩ prog_2_method_3_code 3 (some .boolean) ∈ ub_T := List.mem_filter.mpr ⟨List.mem_of_getElem? (i := 209) rfl, rfl⟩
set_option maxRecDepth 100000 in
theorem ubw_210 : Cond.methodLink "UpdateRobot$Names" 51 ⟨"UpdateRobot$Names", "isKnown", "(I)Z"⟩ ∈ ub_T := List.mem_filter.mpr ⟨List.mem_of_getElem? (i := 210) (by decide +kernel), rfl⟩
set_option maxRecDepth 100000 in
theorem ubw_214 : Cond.code ⟨"UpdateRobot", "rule", "(IIII)Z"⟩ prog_1_method_5_code 5 (some .boolean) ∈ ub_T := List.mem_filter.mpr ⟨List.mem_of_getElem? (i := 214) rfl, rfl⟩
set_option maxRecDepth 100000 in
theorem ubw_218 : Cond.code ⟨"UpdateRobot", "advise", "(II)Z"⟩ prog_1_method_6_code 3 (some .boolean) ∈ ub_T := List.mem_filter.mpr ⟨List.mem_of_getElem? (i := 218) rfl, rfl⟩
set_option maxRecDepth 100000 in
theorem ubw_222 : Cond.code ⟨"UpdateRobot", "has", "(I)I"⟩ prog_1_method_7_code 2 (some .int) ∈ ub_T := List.mem_filter.mpr ⟨List.mem_of_getElem? (i := 222) rfl, rfl⟩
set_option maxRecDepth 100000 in
theorem ubw_226 : Cond.code ⟨"UpdateRobot", "goal", "(I)I"⟩ prog_1_method_8_code 2 (some .int) ∈ ub_T := List.mem_filter.mpr ⟨List.mem_of_getElem? (i := 226) rfl, rfl⟩
set_option maxRecDepth 100000 in
theorem ubw_227 : Cond.methodLink "UpdateRobot" 90 ⟨"UpdateRobot$Names", "goalOf", "(I)I"⟩ ∈ ub_T := List.mem_filter.mpr ⟨List.mem_of_getElem? (i := 227) (by decide +kernel), rfl⟩
set_option maxRecDepth 100000 in
theorem ubw_228 : Cond.instanceMethod ⟨"UpdateRobot$Names", "goalOf", "(I)I"⟩ ∈ ub_T := List.mem_filter.mpr ⟨List.mem_of_getElem? (i := 228) (by decide +kernel), rfl⟩
set_option maxRecDepth 100000 in
theorem ubw_229 : Cond.selects "UpdateRobot$Names" ⟨"UpdateRobot$Names", "goalOf", "(I)I"⟩ ⟨"UpdateRobot$Names", "goalOf", "(I)I"⟩ ∈ ub_T := List.mem_filter.mpr ⟨List.mem_of_getElem? (i := 229) (by decide +kernel), rfl⟩
set_option maxRecDepth 100000 in
theorem ubw_230 : Cond.code ⟨"UpdateRobot$Names", "goalOf", "(I)I"⟩ prog_2_method_7_code 4 (some .int) ∈ ub_T := List.mem_filter.mpr ⟨List.mem_of_getElem? (i := 230) rfl, rfl⟩
set_option maxRecDepth 100000 in
theorem ubw_231 : Cond.methodLink "UpdateRobot$Names" 55 ⟨"UpdateRobot$Names", "farthestAllowed", "(I)I"⟩ ∈ ub_T := List.mem_filter.mpr ⟨List.mem_of_getElem? (i := 231) (by decide +kernel), rfl⟩
set_option maxRecDepth 100000 in
theorem ubw_232 : Cond.instanceMethod ⟨"UpdateRobot$Names", "farthestAllowed", "(I)I"⟩ ∈ ub_T := List.mem_filter.mpr ⟨List.mem_of_getElem? (i := 232) (by decide +kernel), rfl⟩
set_option maxRecDepth 100000 in
theorem ubw_233 : Cond.selects "UpdateRobot$Names" ⟨"UpdateRobot$Names", "farthestAllowed", "(I)I"⟩ ⟨"UpdateRobot$Names", "farthestAllowed", "(I)I"⟩ ∈ ub_T := List.mem_filter.mpr ⟨List.mem_of_getElem? (i := 233) (by decide +kernel), rfl⟩
set_option maxRecDepth 100000 in
theorem ubw_234 : Cond.code ⟨"UpdateRobot$Names", "farthestAllowed", "(I)I"⟩ prog_2_method_8_code 4 (some .int) ∈ ub_T := List.mem_filter.mpr ⟨List.mem_of_getElem? (i := 234) rfl, rfl⟩
set_option maxRecDepth 100000 in
theorem ubw_235 : Cond.methodLink "UpdateRobot$Names" 59 ⟨"UpdateRobot$Names", "isHit", "(I)Z"⟩ ∈ ub_T := List.mem_filter.mpr ⟨List.mem_of_getElem? (i := 235) (by decide +kernel), rfl⟩
set_option maxRecDepth 100000 in
theorem ubw_236 : Cond.instanceMethod ⟨"UpdateRobot$Names", "isHit", "(I)Z"⟩ ∈ ub_T := List.mem_filter.mpr ⟨List.mem_of_getElem? (i := 236) (by decide +kernel), rfl⟩
set_option maxRecDepth 100000 in
theorem ubw_237 : Cond.selects "UpdateRobot$Names" ⟨"UpdateRobot$Names", "isHit", "(I)Z"⟩ ⟨"UpdateRobot$Names", "isHit", "(I)Z"⟩ ∈ ub_T := List.mem_filter.mpr ⟨List.mem_of_getElem? (i := 237) (by decide +kernel), rfl⟩
set_option maxRecDepth 100000 in
theorem ubw_238 : Cond.code ⟨"UpdateRobot$Names", "isHit", "(I)Z"⟩ prog_2_method_6_code 2 (some .boolean) ∈ ub_T := List.mem_filter.mpr ⟨List.mem_of_getElem? (i := 238) rfl, rfl⟩
set_option maxRecDepth 100000 in
theorem ubw_242 : Cond.code ⟨"UpdateRobot", "chief", "(I)I"⟩ prog_1_method_9_code 2 (some .int) ∈ ub_T := List.mem_filter.mpr ⟨List.mem_of_getElem? (i := 242) rfl, rfl⟩
set_option maxRecDepth 100000 in
theorem ubw_243 : Cond.methodLink "UpdateRobot" 93 ⟨"UpdateRobot$Names", "chiefOf", "(I)I"⟩ ∈ ub_T := List.mem_filter.mpr ⟨List.mem_of_getElem? (i := 243) (by decide +kernel), rfl⟩
set_option maxRecDepth 100000 in
theorem ubw_244 : Cond.instanceMethod ⟨"UpdateRobot$Names", "chiefOf", "(I)I"⟩ ∈ ub_T := List.mem_filter.mpr ⟨List.mem_of_getElem? (i := 244) (by decide +kernel), rfl⟩
set_option maxRecDepth 100000 in
theorem ubw_245 : Cond.selects "UpdateRobot$Names" ⟨"UpdateRobot$Names", "chiefOf", "(I)I"⟩ ⟨"UpdateRobot$Names", "chiefOf", "(I)I"⟩ ∈ ub_T := List.mem_filter.mpr ⟨List.mem_of_getElem? (i := 245) (by decide +kernel), rfl⟩
set_option maxRecDepth 100000 in
theorem ubw_246 : Cond.code ⟨"UpdateRobot$Names", "chiefOf", "(I)I"⟩ prog_2_method_9_code 3 (some .int) ∈ ub_T := List.mem_filter.mpr ⟨List.mem_of_getElem? (i := 246) rfl, rfl⟩
set_option maxRecDepth 100000 in
theorem ubw_250 : Cond.code ⟨"UpdateRobot", "solve", "(I)I"⟩ prog_1_method_10_code 2 (some .int) ∈ ub_T := List.mem_filter.mpr ⟨List.mem_of_getElem? (i := 250) rfl, rfl⟩
set_option maxRecDepth 100000 in
theorem ubw_251 : Cond.methodLink "UpdateRobot" 96 ⟨"UpdateRobot$Names", "isChief", "(I)Z"⟩ ∈ ub_T := List.mem_filter.mpr ⟨List.mem_of_getElem? (i := 251) (by decide +kernel), rfl⟩
set_option maxRecDepth 100000 in
theorem ubw_252 : Cond.instanceMethod ⟨"UpdateRobot$Names", "isChief", "(I)Z"⟩ ∈ ub_T := List.mem_filter.mpr ⟨List.mem_of_getElem? (i := 252) (by decide +kernel), rfl⟩
set_option maxRecDepth 100000 in
theorem ubw_253 : Cond.selects "UpdateRobot$Names" ⟨"UpdateRobot$Names", "isChief", "(I)Z"⟩ ⟨"UpdateRobot$Names", "isChief", "(I)Z"⟩ ∈ ub_T := List.mem_filter.mpr ⟨List.mem_of_getElem? (i := 253) (by decide +kernel), rfl⟩
set_option maxRecDepth 100000 in
theorem ubw_254 : Cond.code ⟨"UpdateRobot$Names", "isChief", "(I)Z"⟩ prog_2_method_10_code 2 (some .boolean) ∈ ub_T := List.mem_filter.mpr ⟨List.mem_of_getElem? (i := 254) rfl, rfl⟩
set_option maxRecDepth 100000 in
theorem ubw_255 : Cond.methodLink "UpdateRobot$Names" 62 ⟨"UpdateRobot$Names", "chiefOf", "(I)I"⟩ ∈ ub_T := List.mem_filter.mpr ⟨List.mem_of_getElem? (i := 255) (by decide +kernel), rfl⟩
set_option maxRecDepth 100000 in
theorem ubw_256 : Cond.methodLink "UpdateRobot" 99 ⟨"UpdateRobot$Solver", "solveUnit", "(LUpdateRobot$Names;I)I"⟩ ∈ ub_T := List.mem_filter.mpr ⟨List.mem_of_getElem? (i := 256) (by decide +kernel), rfl⟩
set_option maxRecDepth 100000 in
theorem ubw_257 : Cond.instanceMethod ⟨"UpdateRobot$Solver", "solveUnit", "(LUpdateRobot$Names;I)I"⟩ ∈ ub_T := List.mem_filter.mpr ⟨List.mem_of_getElem? (i := 257) (by decide +kernel), rfl⟩
set_option maxRecDepth 100000 in
theorem ubw_258 : Cond.selects "UpdateRobot$Solver" ⟨"UpdateRobot$Solver", "solveUnit", "(LUpdateRobot$Names;I)I"⟩ ⟨"UpdateRobot$Solver", "solveUnit", "(LUpdateRobot$Names;I)I"⟩ ∈ ub_T := List.mem_filter.mpr ⟨List.mem_of_getElem? (i := 258) (by decide +kernel), rfl⟩
set_option maxRecDepth 100000 in
theorem ubw_259 : Cond.code ⟨"UpdateRobot$Solver", "solveUnit", "(LUpdateRobot$Names;I)I"⟩ prog_4_method_2_code 7 (some .int) ∈ ub_T := List.mem_filter.mpr ⟨List.mem_of_getElem? (i := 259) rfl, rfl⟩
set_option maxRecDepth 100000 in
theorem ubw_260 : Cond.methodLink "UpdateRobot$Solver" 18 ⟨"UpdateRobot$Solver", "setOut", "(LUpdateRobot$Names;I)V"⟩ ∈ ub_T := List.mem_filter.mpr ⟨List.mem_of_getElem? (i := 260) (by decide +kernel), rfl⟩
set_option maxRecDepth 100000 in
theorem ubw_262 : Cond.instanceMethod ⟨"UpdateRobot$Solver", "setOut", "(LUpdateRobot$Names;I)V"⟩ ∈ ub_T := List.mem_filter.mpr ⟨List.mem_of_getElem? (i := 262) (by decide +kernel), rfl⟩
set_option maxRecDepth 100000 in
theorem ubw_263 : Cond.code ⟨"UpdateRobot$Solver", "setOut", "(LUpdateRobot$Names;I)V"⟩ prog_4_method_3_code 4 none ∈ ub_T := List.mem_filter.mpr ⟨List.mem_of_getElem? (i := 263) rfl, rfl⟩
set_option maxRecDepth 100000 in
theorem ubw_264 : Cond.methodLink "UpdateRobot$Solver" 46 ⟨"UpdateRobot$Names", "chiefOf", "(I)I"⟩ ∈ ub_T := List.mem_filter.mpr ⟨List.mem_of_getElem? (i := 264) (by decide +kernel), rfl⟩
set_option maxRecDepth 100000 in
theorem ubw_265 : Cond.methodLink "UpdateRobot$Solver" 49 ⟨"UpdateRobot$Names", "goalOf", "(I)I"⟩ ∈ ub_T := List.mem_filter.mpr ⟨List.mem_of_getElem? (i := 265) (by decide +kernel), rfl⟩
set_option maxRecDepth 100000 in
theorem ubw_266 : Cond.methodLink "UpdateRobot$Solver" 22 ⟨"UpdateRobot$Solver", "firstNeedy", "(LUpdateRobot$Names;)I"⟩ ∈ ub_T := List.mem_filter.mpr ⟨List.mem_of_getElem? (i := 266) (by decide +kernel), rfl⟩
set_option maxRecDepth 100000 in
theorem ubw_268 : Cond.instanceMethod ⟨"UpdateRobot$Solver", "firstNeedy", "(LUpdateRobot$Names;)I"⟩ ∈ ub_T := List.mem_filter.mpr ⟨List.mem_of_getElem? (i := 268) (by decide +kernel), rfl⟩
set_option maxRecDepth 100000 in
theorem ubw_269 : Cond.code ⟨"UpdateRobot$Solver", "firstNeedy", "(LUpdateRobot$Names;)I"⟩ prog_4_method_4_code 3 (some .int) ∈ ub_T := List.mem_filter.mpr ⟨List.mem_of_getElem? (i := 269) rfl, rfl⟩
set_option maxRecDepth 100000 in
theorem ubw_270 : Cond.methodLink "UpdateRobot$Solver" 55 ⟨"UpdateRobot$Solver", "lacksAtTarget", "(LUpdateRobot$Names;I)Z"⟩ ∈ ub_T := List.mem_filter.mpr ⟨List.mem_of_getElem? (i := 270) (by decide +kernel), rfl⟩
set_option maxRecDepth 100000 in
theorem ubw_272 : Cond.instanceMethod ⟨"UpdateRobot$Solver", "lacksAtTarget", "(LUpdateRobot$Names;I)Z"⟩ ∈ ub_T := List.mem_filter.mpr ⟨List.mem_of_getElem? (i := 272) (by decide +kernel), rfl⟩
set_option maxRecDepth 100000 in
theorem ubw_273 : Cond.code ⟨"UpdateRobot$Solver", "lacksAtTarget", "(LUpdateRobot$Names;I)Z"⟩ prog_4_method_5_code 5 (some .boolean) ∈ ub_T := List.mem_filter.mpr ⟨List.mem_of_getElem? (i := 273) rfl, rfl⟩
set_option maxRecDepth 100000 in
theorem ubw_274 : Cond.methodLink "UpdateRobot$Solver" 59 ⟨"UpdateRobot$Names", "hasVersion", "(II)Z"⟩ ∈ ub_T := List.mem_filter.mpr ⟨List.mem_of_getElem? (i := 274) (by decide +kernel), rfl⟩
set_option maxRecDepth 100000 in
theorem ubw_275 : Cond.methodLink "UpdateRobot$Solver" 63 ⟨"UpdateRobot$Names", "isKnown", "(I)Z"⟩ ∈ ub_T := List.mem_filter.mpr ⟨List.mem_of_getElem? (i := 275) (by decide +kernel), rfl⟩
set_option maxRecDepth 100000 in
theorem ubw_276 : Cond.methodLink "UpdateRobot$Solver" 35 ⟨"UpdateRobot$Names", "farthestAllowed", "(I)I"⟩ ∈ ub_T := List.mem_filter.mpr ⟨List.mem_of_getElem? (i := 276) (by decide +kernel), rfl⟩
set_option maxRecDepth 100000 in
theorem ubw_277 : Cond.methodLink "UpdateRobot$Solver" 39 ⟨"UpdateRobot$Solver", "keepRaised", "(LUpdateRobot$Names;)I"⟩ ∈ ub_T := List.mem_filter.mpr ⟨List.mem_of_getElem? (i := 277) (by decide +kernel), rfl⟩
set_option maxRecDepth 100000 in
theorem ubw_279 : Cond.instanceMethod ⟨"UpdateRobot$Solver", "keepRaised", "(LUpdateRobot$Names;)I"⟩ ∈ ub_T := List.mem_filter.mpr ⟨List.mem_of_getElem? (i := 279) (by decide +kernel), rfl⟩
set_option maxRecDepth 100000 in
theorem ubw_280 : Cond.code ⟨"UpdateRobot$Solver", "keepRaised", "(LUpdateRobot$Names;)I"⟩ prog_4_method_6_code 4 (some .int) ∈ ub_T := List.mem_filter.mpr ⟨List.mem_of_getElem? (i := 280) rfl, rfl⟩
set_option maxRecDepth 100000 in
theorem ubw_284 : Cond.code ⟨"UpdateRobot", "tick", "(I)I"⟩ prog_1_method_11_code 2 (some .int) ∈ ub_T := List.mem_filter.mpr ⟨List.mem_of_getElem? (i := 284) rfl, rfl⟩
set_option maxRecDepth 100000 in
theorem ubw_285 : Cond.constant "UpdateRobot" 103 (100000 : Int32) ∈ ub_T := List.mem_filter.mpr ⟨List.mem_of_getElem? (i := 285) (by decide +kernel), rfl⟩
set_option maxRecDepth 100000 in
theorem ubw_286 : Cond.constant "UpdateRobot" 104 (1000000000 : Int32) ∈ ub_T := List.mem_filter.mpr ⟨List.mem_of_getElem? (i := 286) (by decide +kernel), rfl⟩
set_option maxRecDepth 100000 in
theorem ubw_290 : Cond.code ⟨"UpdateRobot", "run", "()I"⟩ prog_1_method_12_code 3 (some .int) ∈ ub_T := List.mem_filter.mpr ⟨List.mem_of_getElem? (i := 290) rfl, rfl⟩
set_option maxRecDepth 100000 in
theorem ubw_291 : Cond.methodLink "UpdateRobot" 109 ⟨"UpdateRobot", "isDue", "(I)Z"⟩ ∈ ub_T := List.mem_filter.mpr ⟨List.mem_of_getElem? (i := 291) (by decide +kernel), rfl⟩
set_option maxRecDepth 100000 in
theorem ubw_293 : Cond.instanceMethod ⟨"UpdateRobot", "isDue", "(I)Z"⟩ ∈ ub_T := List.mem_filter.mpr ⟨List.mem_of_getElem? (i := 293) (by decide +kernel), rfl⟩
set_option maxRecDepth 100000 in
theorem ubw_294 : Cond.code ⟨"UpdateRobot", "isDue", "(I)Z"⟩ prog_1_method_19_code 3 (some .boolean) ∈ ub_T := List.mem_filter.mpr ⟨List.mem_of_getElem? (i := 294) rfl, rfl⟩
set_option maxRecDepth 100000 in
theorem ubw_295 : Cond.methodLink "UpdateRobot" 152 ⟨"UpdateRobot$Names", "isUnitHit", "(I)Z"⟩ ∈ ub_T := List.mem_filter.mpr ⟨List.mem_of_getElem? (i := 295) (by decide +kernel), rfl⟩
set_option maxRecDepth 100000 in
theorem ubw_296 : Cond.instanceMethod ⟨"UpdateRobot$Names", "isUnitHit", "(I)Z"⟩ ∈ ub_T := List.mem_filter.mpr ⟨List.mem_of_getElem? (i := 296) (by decide +kernel), rfl⟩
set_option maxRecDepth 100000 in
theorem ubw_297 : Cond.selects "UpdateRobot$Names" ⟨"UpdateRobot$Names", "isUnitHit", "(I)Z"⟩ ⟨"UpdateRobot$Names", "isUnitHit", "(I)Z"⟩ ∈ ub_T := List.mem_filter.mpr ⟨List.mem_of_getElem? (i := 297) (by decide +kernel), rfl⟩
set_option maxRecDepth 100000 in
theorem ubw_298 : Cond.code ⟨"UpdateRobot$Names", "isUnitHit", "(I)Z"⟩ prog_2_method_11_code 3 (some .boolean) ∈ ub_T := List.mem_filter.mpr ⟨List.mem_of_getElem? (i := 298) rfl, rfl⟩
set_option maxRecDepth 100000 in
theorem ubw_299 : Cond.methodLink "UpdateRobot" 155 ⟨"UpdateRobot$Names", "leastEvery", "(I)I"⟩ ∈ ub_T := List.mem_filter.mpr ⟨List.mem_of_getElem? (i := 299) (by decide +kernel), rfl⟩
set_option maxRecDepth 100000 in
theorem ubw_300 : Cond.instanceMethod ⟨"UpdateRobot$Names", "leastEvery", "(I)I"⟩ ∈ ub_T := List.mem_filter.mpr ⟨List.mem_of_getElem? (i := 300) (by decide +kernel), rfl⟩
set_option maxRecDepth 100000 in
theorem ubw_301 : Cond.selects "UpdateRobot$Names" ⟨"UpdateRobot$Names", "leastEvery", "(I)I"⟩ ⟨"UpdateRobot$Names", "leastEvery", "(I)I"⟩ ∈ ub_T := List.mem_filter.mpr ⟨List.mem_of_getElem? (i := 301) (by decide +kernel), rfl⟩
set_option maxRecDepth 100000 in
theorem ubw_302 : Cond.code ⟨"UpdateRobot$Names", "leastEvery", "(I)I"⟩ prog_2_method_12_code 4 (some .int) ∈ ub_T := List.mem_filter.mpr ⟨List.mem_of_getElem? (i := 302) rfl, rfl⟩
set_option maxRecDepth 100000 in
theorem ubw_303 : Cond.methodLink "UpdateRobot$Names" 65 ⟨"java/lang/Math", "min", "(II)I"⟩ ∈ ub_T := List.mem_filter.mpr ⟨List.mem_of_getElem? (i := 303) (by decide +kernel), rfl⟩
set_option maxRecDepth 100000 in
theorem ubw_304 : Cond.methodLink "UpdateRobot" 115 ⟨"UpdateRobot", "review", "(I)V"⟩ ∈ ub_T := List.mem_filter.mpr ⟨List.mem_of_getElem? (i := 304) (by decide +kernel), rfl⟩
set_option maxRecDepth 100000 in
theorem ubw_306 : Cond.instanceMethod ⟨"UpdateRobot", "review", "(I)V"⟩ ∈ ub_T := List.mem_filter.mpr ⟨List.mem_of_getElem? (i := 306) (by decide +kernel), rfl⟩
set_option maxRecDepth 100000 in
theorem ubw_307 : Cond.code ⟨"UpdateRobot", "review", "(I)V"⟩ prog_1_method_20_code 3 none ∈ ub_T := List.mem_filter.mpr ⟨List.mem_of_getElem? (i := 307) rfl, rfl⟩
set_option maxRecDepth 100000 in
theorem ubw_308 : Cond.methodLink "UpdateRobot" 158 ⟨"UpdateRobot$Proposals", "openOf", "(I)I"⟩ ∈ ub_T := List.mem_filter.mpr ⟨List.mem_of_getElem? (i := 308) (by decide +kernel), rfl⟩
set_option maxRecDepth 100000 in
theorem ubw_309 : Cond.instanceMethod ⟨"UpdateRobot$Proposals", "openOf", "(I)I"⟩ ∈ ub_T := List.mem_filter.mpr ⟨List.mem_of_getElem? (i := 309) (by decide +kernel), rfl⟩
set_option maxRecDepth 100000 in
theorem ubw_310 : Cond.selects "UpdateRobot$Proposals" ⟨"UpdateRobot$Proposals", "openOf", "(I)I"⟩ ⟨"UpdateRobot$Proposals", "openOf", "(I)I"⟩ ∈ ub_T := List.mem_filter.mpr ⟨List.mem_of_getElem? (i := 310) (by decide +kernel), rfl⟩
set_option maxRecDepth 100000 in
theorem ubw_311 : Cond.code ⟨"UpdateRobot$Proposals", "openOf", "(I)I"⟩ prog_3_method_8_code 2 (some .int) ∈ ub_T := List.mem_filter.mpr ⟨List.mem_of_getElem? (i := 311) rfl, rfl⟩
set_option maxRecDepth 100000 in
theorem ubw_312 : Cond.methodLink "UpdateRobot$Proposals" 49 ⟨"UpdateRobot$Proposals", "latestOf", "(II)I"⟩ ∈ ub_T := List.mem_filter.mpr ⟨List.mem_of_getElem? (i := 312) (by decide +kernel), rfl⟩
set_option maxRecDepth 100000 in
theorem ubw_314 : Cond.instanceMethod ⟨"UpdateRobot$Proposals", "latestOf", "(II)I"⟩ ∈ ub_T := List.mem_filter.mpr ⟨List.mem_of_getElem? (i := 314) (by decide +kernel), rfl⟩
set_option maxRecDepth 100000 in
theorem ubw_315 : Cond.code ⟨"UpdateRobot$Proposals", "latestOf", "(II)I"⟩ prog_3_method_10_code 4 (some .int) ∈ ub_T := List.mem_filter.mpr ⟨List.mem_of_getElem? (i := 315) rfl, rfl⟩
set_option maxRecDepth 100000 in
theorem ubw_316 : Cond.methodLink "UpdateRobot" 161 ⟨"UpdateRobot$Proposals", "closeIfAny", "(II)V"⟩ ∈ ub_T := List.mem_filter.mpr ⟨List.mem_of_getElem? (i := 316) (by decide +kernel), rfl⟩
set_option maxRecDepth 100000 in
theorem ubw_317 : Cond.instanceMethod ⟨"UpdateRobot$Proposals", "closeIfAny", "(II)V"⟩ ∈ ub_T := List.mem_filter.mpr ⟨List.mem_of_getElem? (i := 317) (by decide +kernel), rfl⟩
set_option maxRecDepth 100000 in
theorem ubw_318 : Cond.selects "UpdateRobot$Proposals" ⟨"UpdateRobot$Proposals", "closeIfAny", "(II)V"⟩ ⟨"UpdateRobot$Proposals", "closeIfAny", "(II)V"⟩ ∈ ub_T := List.mem_filter.mpr ⟨List.mem_of_getElem? (i := 318) (by decide +kernel), rfl⟩
set_option maxRecDepth 100000 in
theorem ubw_319 : Cond.code ⟨"UpdateRobot$Proposals", "closeIfAny", "(II)V"⟩ prog_3_method_7_code 3 none ∈ ub_T := List.mem_filter.mpr ⟨List.mem_of_getElem? (i := 319) rfl, rfl⟩
set_option maxRecDepth 100000 in
theorem ubw_320 : Cond.methodLink "UpdateRobot$Proposals" 37 ⟨"UpdateRobot$Proposals", "isKnown", "(I)Z"⟩ ∈ ub_T := List.mem_filter.mpr ⟨List.mem_of_getElem? (i := 320) (by decide +kernel), rfl⟩
set_option maxRecDepth 100000 in
theorem ubw_321 : Cond.instanceMethod ⟨"UpdateRobot$Proposals", "isKnown", "(I)Z"⟩ ∈ ub_T := List.mem_filter.mpr ⟨List.mem_of_getElem? (i := 321) (by decide +kernel), rfl⟩
set_option maxRecDepth 100000 in
theorem ubw_322 : Cond.selects "UpdateRobot$Proposals" ⟨"UpdateRobot$Proposals", "isKnown", "(I)Z"⟩ ⟨"UpdateRobot$Proposals", "isKnown", "(I)Z"⟩ ∈ ub_T := List.mem_filter.mpr ⟨List.mem_of_getElem? (i := 322) (by decide +kernel), rfl⟩
set_option maxRecDepth 100000 in
theorem ubw_323 : Cond.code ⟨"UpdateRobot$Proposals", "isKnown", "(I)Z"⟩ prog_3_method_2_code 2 (some .boolean) ∈ ub_T := List.mem_filter.mpr ⟨List.mem_of_getElem? (i := 323) rfl, rfl⟩
set_option maxRecDepth 100000 in
theorem ubw_324 : Cond.methodLink "UpdateRobot" 167 ⟨"UpdateRobot$Proposals", "raisesJust", "(I[I)Z"⟩ ∈ ub_T := List.mem_filter.mpr ⟨List.mem_of_getElem? (i := 324) (by decide +kernel), rfl⟩
set_option maxRecDepth 100000 in
theorem ubw_325 : Cond.instanceMethod ⟨"UpdateRobot$Proposals", "raisesJust", "(I[I)Z"⟩ ∈ ub_T := List.mem_filter.mpr ⟨List.mem_of_getElem? (i := 325) (by decide +kernel), rfl⟩
set_option maxRecDepth 100000 in
theorem ubw_326 : Cond.selects "UpdateRobot$Proposals" ⟨"UpdateRobot$Proposals", "raisesJust", "(I[I)Z"⟩ ⟨"UpdateRobot$Proposals", "raisesJust", "(I[I)Z"⟩ ∈ ub_T := List.mem_filter.mpr ⟨List.mem_of_getElem? (i := 326) (by decide +kernel), rfl⟩
set_option maxRecDepth 100000 in
theorem ubw_327 : Cond.code ⟨"UpdateRobot$Proposals", "raisesJust", "(I[I)Z"⟩ prog_3_method_11_code 4 (some .boolean) ∈ ub_T := List.mem_filter.mpr ⟨List.mem_of_getElem? (i := 327) rfl, rfl⟩
set_option maxRecDepth 100000 in
theorem ubw_328 : Cond.methodLink "UpdateRobot" 171 ⟨"UpdateRobot$Proposals", "latestFailedOf", "(I)I"⟩ ∈ ub_T := List.mem_filter.mpr ⟨List.mem_of_getElem? (i := 328) (by decide +kernel), rfl⟩
set_option maxRecDepth 100000 in
theorem ubw_329 : Cond.instanceMethod ⟨"UpdateRobot$Proposals", "latestFailedOf", "(I)I"⟩ ∈ ub_T := List.mem_filter.mpr ⟨List.mem_of_getElem? (i := 329) (by decide +kernel), rfl⟩
set_option maxRecDepth 100000 in
theorem ubw_330 : Cond.selects "UpdateRobot$Proposals" ⟨"UpdateRobot$Proposals", "latestFailedOf", "(I)I"⟩ ⟨"UpdateRobot$Proposals", "latestFailedOf", "(I)I"⟩ ∈ ub_T := List.mem_filter.mpr ⟨List.mem_of_getElem? (i := 330) (by decide +kernel), rfl⟩
set_option maxRecDepth 100000 in
theorem ubw_331 : Cond.code ⟨"UpdateRobot$Proposals", "latestFailedOf", "(I)I"⟩ prog_3_method_9_code 2 (some .int) ∈ ub_T := List.mem_filter.mpr ⟨List.mem_of_getElem? (i := 331) rfl, rfl⟩
set_option maxRecDepth 100000 in
theorem ubw_332 : Cond.methodLink "UpdateRobot" 174 ⟨"UpdateRobot", "mayOpen", "(II)Z"⟩ ∈ ub_T := List.mem_filter.mpr ⟨List.mem_of_getElem? (i := 332) (by decide +kernel), rfl⟩
set_option maxRecDepth 100000 in
theorem ubw_334 : Cond.instanceMethod ⟨"UpdateRobot", "mayOpen", "(II)Z"⟩ ∈ ub_T := List.mem_filter.mpr ⟨List.mem_of_getElem? (i := 334) (by decide +kernel), rfl⟩
set_option maxRecDepth 100000 in
theorem ubw_335 : Cond.code ⟨"UpdateRobot", "mayOpen", "(II)Z"⟩ prog_1_method_21_code 3 (some .boolean) ∈ ub_T := List.mem_filter.mpr ⟨List.mem_of_getElem? (i := 335) rfl, rfl⟩
set_option maxRecDepth 100000 in
theorem ubw_336 : Cond.methodLink "UpdateRobot" 180 ⟨"UpdateRobot$Proposals", "isFull", "()Z"⟩ ∈ ub_T := List.mem_filter.mpr ⟨List.mem_of_getElem? (i := 336) (by decide +kernel), rfl⟩
set_option maxRecDepth 100000 in
theorem ubw_337 : Cond.instanceMethod ⟨"UpdateRobot$Proposals", "isFull", "()Z"⟩ ∈ ub_T := List.mem_filter.mpr ⟨List.mem_of_getElem? (i := 337) (by decide +kernel), rfl⟩
set_option maxRecDepth 100000 in
theorem ubw_338 : Cond.selects "UpdateRobot$Proposals" ⟨"UpdateRobot$Proposals", "isFull", "()Z"⟩ ⟨"UpdateRobot$Proposals", "isFull", "()Z"⟩ ∈ ub_T := List.mem_filter.mpr ⟨List.mem_of_getElem? (i := 338) (by decide +kernel), rfl⟩
set_option maxRecDepth 100000 in
theorem ubw_339 : Cond.code ⟨"UpdateRobot$Proposals", "isFull", "()Z"⟩ prog_3_method_4_code 1 (some .boolean) ∈ ub_T := List.mem_filter.mpr ⟨List.mem_of_getElem? (i := 339) rfl, rfl⟩
set_option maxRecDepth 100000 in
theorem ubw_340 : Cond.methodLink "UpdateRobot" 149 ⟨"UpdateRobot", "openIn", "(I)I"⟩ ∈ ub_T := List.mem_filter.mpr ⟨List.mem_of_getElem? (i := 340) (by decide +kernel), rfl⟩
set_option maxRecDepth 100000 in
theorem ubw_342 : Cond.instanceMethod ⟨"UpdateRobot", "openIn", "(I)I"⟩ ∈ ub_T := List.mem_filter.mpr ⟨List.mem_of_getElem? (i := 342) (by decide +kernel), rfl⟩
set_option maxRecDepth 100000 in
theorem ubw_343 : Cond.code ⟨"UpdateRobot", "openIn", "(I)I"⟩ prog_1_method_22_code 4 (some .int) ∈ ub_T := List.mem_filter.mpr ⟨List.mem_of_getElem? (i := 343) rfl, rfl⟩
set_option maxRecDepth 100000 in
theorem ubw_344 : Cond.methodLink "UpdateRobot" 139 ⟨"UpdateRobot$Proposals", "isOpen", "(I)Z"⟩ ∈ ub_T := List.mem_filter.mpr ⟨List.mem_of_getElem? (i := 344) (by decide +kernel), rfl⟩
set_option maxRecDepth 100000 in
theorem ubw_345 : Cond.instanceMethod ⟨"UpdateRobot$Proposals", "isOpen", "(I)Z"⟩ ∈ ub_T := List.mem_filter.mpr ⟨List.mem_of_getElem? (i := 345) (by decide +kernel), rfl⟩
set_option maxRecDepth 100000 in
theorem ubw_346 : Cond.selects "UpdateRobot$Proposals" ⟨"UpdateRobot$Proposals", "isOpen", "(I)Z"⟩ ⟨"UpdateRobot$Proposals", "isOpen", "(I)Z"⟩ ∈ ub_T := List.mem_filter.mpr ⟨List.mem_of_getElem? (i := 346) (by decide +kernel), rfl⟩
set_option maxRecDepth 100000 in
theorem ubw_347 : Cond.code ⟨"UpdateRobot$Proposals", "isOpen", "(I)Z"⟩ prog_3_method_3_code 2 (some .boolean) ∈ ub_T := List.mem_filter.mpr ⟨List.mem_of_getElem? (i := 347) rfl, rfl⟩
set_option maxRecDepth 100000 in
theorem ubw_348 : Cond.methodLink "UpdateRobot" 177 ⟨"UpdateRobot$Proposals", "add", "(IIZ[I)V"⟩ ∈ ub_T := List.mem_filter.mpr ⟨List.mem_of_getElem? (i := 348) (by decide +kernel), rfl⟩
set_option maxRecDepth 100000 in
theorem ubw_349 : Cond.instanceMethod ⟨"UpdateRobot$Proposals", "add", "(IIZ[I)V"⟩ ∈ ub_T := List.mem_filter.mpr ⟨List.mem_of_getElem? (i := 349) (by decide +kernel), rfl⟩
set_option maxRecDepth 100000 in
theorem ubw_350 : Cond.selects "UpdateRobot$Proposals" ⟨"UpdateRobot$Proposals", "add", "(IIZ[I)V"⟩ ⟨"UpdateRobot$Proposals", "add", "(IIZ[I)V"⟩ ∈ ub_T := List.mem_filter.mpr ⟨List.mem_of_getElem? (i := 350) (by decide +kernel), rfl⟩
set_option maxRecDepth 100000 in
theorem ubw_351 : Cond.code ⟨"UpdateRobot$Proposals", "add", "(IIZ[I)V"⟩ prog_3_method_5_code 6 none ∈ ub_T := List.mem_filter.mpr ⟨List.mem_of_getElem? (i := 351) rfl, rfl⟩
set_option maxRecDepth 100000 in
theorem ubw_352 : Cond.methodLink "UpdateRobot$Proposals" 41 ⟨"UpdateRobot$Proposals", "isFull", "()Z"⟩ ∈ ub_T := List.mem_filter.mpr ⟨List.mem_of_getElem? (i := 352) (by decide +kernel), rfl⟩
set_option maxRecDepth 100000 in
theorem ubw_353 : Cond.methodLink "UpdateRobot$Proposals" 45 ⟨"UpdateRobot$Proposals", "setRaised", "(I[I)V"⟩ ∈ ub_T := List.mem_filter.mpr ⟨List.mem_of_getElem? (i := 353) (by decide +kernel), rfl⟩
set_option maxRecDepth 100000 in
theorem ubw_354 : Cond.instanceMethod ⟨"UpdateRobot$Proposals", "setRaised", "(I[I)V"⟩ ∈ ub_T := List.mem_filter.mpr ⟨List.mem_of_getElem? (i := 354) (by decide +kernel), rfl⟩
set_option maxRecDepth 100000 in
theorem ubw_355 : Cond.selects "UpdateRobot$Proposals" ⟨"UpdateRobot$Proposals", "setRaised", "(I[I)V"⟩ ⟨"UpdateRobot$Proposals", "setRaised", "(I[I)V"⟩ ∈ ub_T := List.mem_filter.mpr ⟨List.mem_of_getElem? (i := 355) (by decide +kernel), rfl⟩
set_option maxRecDepth 100000 in
theorem ubw_356 : Cond.code ⟨"UpdateRobot$Proposals", "setRaised", "(I[I)V"⟩ prog_3_method_6_code 4 none ∈ ub_T := List.mem_filter.mpr ⟨List.mem_of_getElem? (i := 356) rfl, rfl⟩
set_option maxRecDepth 100000 in
theorem ubw_360 : Cond.code ⟨"UpdateRobot", "waiting", "()I"⟩ prog_1_method_13_code 1 (some .int) ∈ ub_T := List.mem_filter.mpr ⟨List.mem_of_getElem? (i := 360) rfl, rfl⟩
set_option maxRecDepth 100000 in
theorem ubw_364 : Cond.code ⟨"UpdateRobot", "about", "(II)I"⟩ prog_1_method_14_code 3 (some .int) ∈ ub_T := List.mem_filter.mpr ⟨List.mem_of_getElem? (i := 364) rfl, rfl⟩
set_option maxRecDepth 100000 in
theorem ubw_365 : Cond.methodLink "UpdateRobot" 119 ⟨"UpdateRobot$Proposals", "isKnown", "(I)Z"⟩ ∈ ub_T := List.mem_filter.mpr ⟨List.mem_of_getElem? (i := 365) (by decide +kernel), rfl⟩
set_option maxRecDepth 100000 in
theorem ubw_369 : Cond.code ⟨"UpdateRobot", "target", "(II)I"⟩ prog_1_method_15_code 3 (some .int) ∈ ub_T := List.mem_filter.mpr ⟨List.mem_of_getElem? (i := 369) rfl, rfl⟩
set_option maxRecDepth 100000 in
theorem ubw_373 : Cond.code ⟨"UpdateRobot", "pass", "(IZ)I"⟩ prog_1_method_16_code 4 (some .int) ∈ ub_T := List.mem_filter.mpr ⟨List.mem_of_getElem? (i := 373) rfl, rfl⟩
set_option maxRecDepth 100000 in
theorem ubw_374 : Cond.methodLink "UpdateRobot" 142 ⟨"UpdateRobot$Names", "moveUp", "([I)I"⟩ ∈ ub_T := List.mem_filter.mpr ⟨List.mem_of_getElem? (i := 374) (by decide +kernel), rfl⟩
set_option maxRecDepth 100000 in
theorem ubw_375 : Cond.instanceMethod ⟨"UpdateRobot$Names", "moveUp", "([I)I"⟩ ∈ ub_T := List.mem_filter.mpr ⟨List.mem_of_getElem? (i := 375) (by decide +kernel), rfl⟩
set_option maxRecDepth 100000 in
theorem ubw_376 : Cond.selects "UpdateRobot$Names" ⟨"UpdateRobot$Names", "moveUp", "([I)I"⟩ ⟨"UpdateRobot$Names", "moveUp", "([I)I"⟩ ∈ ub_T := List.mem_filter.mpr ⟨List.mem_of_getElem? (i := 376) (by decide +kernel), rfl⟩
set_option maxRecDepth 100000 in
theorem ubw_377 : Cond.code ⟨"UpdateRobot$Names", "moveUp", "([I)I"⟩ prog_2_method_13_code 4 (some .int) ∈ ub_T := List.mem_filter.mpr ⟨List.mem_of_getElem? (i := 377) rfl, rfl⟩
set_option maxRecDepth 100000 in
theorem ubw_378 : Cond.methodLink "UpdateRobot" 146 ⟨"UpdateRobot", "redoAllTouchedBy", "(I)V"⟩ ∈ ub_T := List.mem_filter.mpr ⟨List.mem_of_getElem? (i := 378) (by decide +kernel), rfl⟩
set_option maxRecDepth 100000 in
theorem ubw_380 : Cond.instanceMethod ⟨"UpdateRobot", "redoAllTouchedBy", "(I)V"⟩ ∈ ub_T := List.mem_filter.mpr ⟨List.mem_of_getElem? (i := 380) (by decide +kernel), rfl⟩
set_option maxRecDepth 100000 in
theorem ubw_381 : Cond.code ⟨"UpdateRobot", "redoAllTouchedBy", "(I)V"⟩ prog_1_method_23_code 3 none ∈ ub_T := List.mem_filter.mpr ⟨List.mem_of_getElem? (i := 381) rfl, rfl⟩
set_option maxRecDepth 100000 in
theorem ubw_382 : Cond.methodLink "UpdateRobot" 187 ⟨"UpdateRobot$Proposals", "overlap", "(II)Z"⟩ ∈ ub_T := List.mem_filter.mpr ⟨List.mem_of_getElem? (i := 382) (by decide +kernel), rfl⟩
set_option maxRecDepth 100000 in
theorem ubw_383 : Cond.instanceMethod ⟨"UpdateRobot$Proposals", "overlap", "(II)Z"⟩ ∈ ub_T := List.mem_filter.mpr ⟨List.mem_of_getElem? (i := 383) (by decide +kernel), rfl⟩
set_option maxRecDepth 100000 in
theorem ubw_384 : Cond.selects "UpdateRobot$Proposals" ⟨"UpdateRobot$Proposals", "overlap", "(II)Z"⟩ ⟨"UpdateRobot$Proposals", "overlap", "(II)Z"⟩ ∈ ub_T := List.mem_filter.mpr ⟨List.mem_of_getElem? (i := 384) (by decide +kernel), rfl⟩
set_option maxRecDepth 100000 in
theorem ubw_385 : Cond.code ⟨"UpdateRobot$Proposals", "overlap", "(II)Z"⟩ prog_3_method_12_code 4 (some .boolean) ∈ ub_T := List.mem_filter.mpr ⟨List.mem_of_getElem? (i := 385) rfl, rfl⟩
set_option maxRecDepth 100000 in
theorem ubw_386 : Cond.methodLink "UpdateRobot" 190 ⟨"UpdateRobot", "redo", "(I)V"⟩ ∈ ub_T := List.mem_filter.mpr ⟨List.mem_of_getElem? (i := 386) (by decide +kernel), rfl⟩
set_option maxRecDepth 100000 in
theorem ubw_388 : Cond.instanceMethod ⟨"UpdateRobot", "redo", "(I)V"⟩ ∈ ub_T := List.mem_filter.mpr ⟨List.mem_of_getElem? (i := 388) (by decide +kernel), rfl⟩
set_option maxRecDepth 100000 in
theorem ubw_389 : Cond.code ⟨"UpdateRobot", "redo", "(I)V"⟩ prog_1_method_24_code 3 none ∈ ub_T := List.mem_filter.mpr ⟨List.mem_of_getElem? (i := 389) rfl, rfl⟩
set_option maxRecDepth 100000 in
theorem ubw_390 : Cond.methodLink "UpdateRobot" 193 ⟨"UpdateRobot$Proposals", "setRaised", "(I[I)V"⟩ ∈ ub_T := List.mem_filter.mpr ⟨List.mem_of_getElem? (i := 390) (by decide +kernel), rfl⟩
set_option maxRecDepth 100000 in
theorem ubw_394 : Cond.code ⟨"UpdateRobot", "open", "(I)I"⟩ prog_1_method_17_code 2 (some .int) ∈ ub_T := List.mem_filter.mpr ⟨List.mem_of_getElem? (i := 394) rfl, rfl⟩
set_option maxRecDepth 100000 in
theorem ubw_404 : Cond.fieldLink "UpdateRobotModel" 64 "UpdateRobotModel" "limit" "I" ∈ ub_T := List.mem_filter.mpr ⟨List.mem_of_getElem? (i := 404) (by decide +kernel), rfl⟩
set_option maxRecDepth 100000 in
theorem ubw_405 : Cond.fieldLink "UpdateRobotModel" 68 "UpdateRobotModel" "code" "I" ∈ ub_T := List.mem_filter.mpr ⟨List.mem_of_getElem? (i := 405) (by decide +kernel), rfl⟩
set_option maxRecDepth 100000 in
theorem ubw_406 : Cond.fieldLink "UpdateRobotModel" 106 "UpdateRobotModel" "clock" "I" ∈ ub_T := List.mem_filter.mpr ⟨List.mem_of_getElem? (i := 406) (by decide +kernel), rfl⟩
set_option maxRecDepth 100000 in
theorem ubw_407 : Cond.fieldLink "UpdateRobotModel" 71 "UpdateRobotModel" "names" "I" ∈ ub_T := List.mem_filter.mpr ⟨List.mem_of_getElem? (i := 407) (by decide +kernel), rfl⟩
set_option maxRecDepth 100000 in
theorem ubw_408 : Cond.fieldLink "UpdateRobotModel" 113 "UpdateRobotModel" "proposals" "I" ∈ ub_T := List.mem_filter.mpr ⟨List.mem_of_getElem? (i := 408) (by decide +kernel), rfl⟩
set_option maxRecDepth 100000 in
theorem ubw_409 : Cond.fieldLink "UpdateRobotModel" 133 "UpdateRobotModel" "waited" "I" ∈ ub_T := List.mem_filter.mpr ⟨List.mem_of_getElem? (i := 409) (by decide +kernel), rfl⟩
set_option maxRecDepth 100000 in
theorem ubw_410 : Cond.fieldLink "UpdateRobotModel" 7 "UpdateRobotModel" "repository" "[I" ∈ ub_T := List.mem_filter.mpr ⟨List.mem_of_getElem? (i := 410) (by decide +kernel), rfl⟩
set_option maxRecDepth 100000 in
theorem ubw_411 : Cond.fieldLink "UpdateRobotModel" 13 "UpdateRobotModel" "newest" "[I" ∈ ub_T := List.mem_filter.mpr ⟨List.mem_of_getElem? (i := 411) (by decide +kernel), rfl⟩
set_option maxRecDepth 100000 in
theorem ubw_412 : Cond.fieldLink "UpdateRobotModel" 16 "UpdateRobotModel" "has" "[I" ∈ ub_T := List.mem_filter.mpr ⟨List.mem_of_getElem? (i := 412) (by decide +kernel), rfl⟩
set_option maxRecDepth 100000 in
theorem ubw_413 : Cond.fieldLink "UpdateRobotModel" 19 "UpdateRobotModel" "allowed" "[I" ∈ ub_T := List.mem_filter.mpr ⟨List.mem_of_getElem? (i := 413) (by decide +kernel), rfl⟩
set_option maxRecDepth 100000 in
theorem ubw_414 : Cond.fieldLink "UpdateRobotModel" 22 "UpdateRobotModel" "every" "[I" ∈ ub_T := List.mem_filter.mpr ⟨List.mem_of_getElem? (i := 414) (by decide +kernel), rfl⟩
set_option maxRecDepth 100000 in
theorem ubw_415 : Cond.fieldLink "UpdateRobotModel" 25 "UpdateRobotModel" "group" "[I" ∈ ub_T := List.mem_filter.mpr ⟨List.mem_of_getElem? (i := 415) (by decide +kernel), rfl⟩
set_option maxRecDepth 100000 in
theorem ubw_416 : Cond.fieldLink "UpdateRobotModel" 28 "UpdateRobotModel" "advised" "[I" ∈ ub_T := List.mem_filter.mpr ⟨List.mem_of_getElem? (i := 416) (by decide +kernel), rfl⟩
set_option maxRecDepth 100000 in
theorem ubw_417 : Cond.fieldLink "UpdateRobotModel" 31 "UpdateRobotModel" "lastDue" "[I" ∈ ub_T := List.mem_filter.mpr ⟨List.mem_of_getElem? (i := 417) (by decide +kernel), rfl⟩
set_option maxRecDepth 100000 in
theorem ubw_418 : Cond.fieldLink "UpdateRobotModel" 34 "UpdateRobotModel" "kind" "[I" ∈ ub_T := List.mem_filter.mpr ⟨List.mem_of_getElem? (i := 418) (by decide +kernel), rfl⟩
set_option maxRecDepth 100000 in
theorem ubw_419 : Cond.fieldLink "UpdateRobotModel" 37 "UpdateRobotModel" "needOf" "[I" ∈ ub_T := List.mem_filter.mpr ⟨List.mem_of_getElem? (i := 419) (by decide +kernel), rfl⟩
set_option maxRecDepth 100000 in
theorem ubw_420 : Cond.fieldLink "UpdateRobotModel" 40 "UpdateRobotModel" "needLeast" "[I" ∈ ub_T := List.mem_filter.mpr ⟨List.mem_of_getElem? (i := 420) (by decide +kernel), rfl⟩
set_option maxRecDepth 100000 in
theorem ubw_421 : Cond.fieldLink "UpdateRobotModel" 43 "UpdateRobotModel" "trial" "[I" ∈ ub_T := List.mem_filter.mpr ⟨List.mem_of_getElem? (i := 421) (by decide +kernel), rfl⟩
set_option maxRecDepth 100000 in
theorem ubw_422 : Cond.fieldLink "UpdateRobotModel" 99 "UpdateRobotModel" "culprit" "I" ∈ ub_T := List.mem_filter.mpr ⟨List.mem_of_getElem? (i := 422) (by decide +kernel), rfl⟩
set_option maxRecDepth 100000 in
theorem ubw_423 : Cond.fieldLink "UpdateRobotModel" 46 "UpdateRobotModel" "state" "[I" ∈ ub_T := List.mem_filter.mpr ⟨List.mem_of_getElem? (i := 423) (by decide +kernel), rfl⟩
set_option maxRecDepth 100000 in
theorem ubw_424 : Cond.fieldLink "UpdateRobotModel" 49 "UpdateRobotModel" "itsChief" "[I" ∈ ub_T := List.mem_filter.mpr ⟨List.mem_of_getElem? (i := 424) (by decide +kernel), rfl⟩
set_option maxRecDepth 100000 in
theorem ubw_425 : Cond.fieldLink "UpdateRobotModel" 52 "UpdateRobotModel" "redone" "[I" ∈ ub_T := List.mem_filter.mpr ⟨List.mem_of_getElem? (i := 425) (by decide +kernel), rfl⟩
set_option maxRecDepth 100000 in
theorem ubw_426 : Cond.fieldLink "UpdateRobotModel" 55 "UpdateRobotModel" "opened" "[I" ∈ ub_T := List.mem_filter.mpr ⟨List.mem_of_getElem? (i := 426) (by decide +kernel), rfl⟩
set_option maxRecDepth 100000 in
theorem ubw_427 : Cond.fieldLink "UpdateRobotModel" 58 "UpdateRobotModel" "wasHit" "[I" ∈ ub_T := List.mem_filter.mpr ⟨List.mem_of_getElem? (i := 427) (by decide +kernel), rfl⟩
set_option maxRecDepth 100000 in
theorem ubw_428 : Cond.fieldLink "UpdateRobotModel" 61 "UpdateRobotModel" "target" "[I" ∈ ub_T := List.mem_filter.mpr ⟨List.mem_of_getElem? (i := 428) (by decide +kernel), rfl⟩
set_option maxRecDepth 100000 in
theorem ubw_483 : Cond.code ⟨"UpdateRobotModel", "name", "(I)I"⟩ prog_6_method_4_code 2 (some .int) ∈ ub_T := List.mem_filter.mpr ⟨List.mem_of_getElem? (i := 483) rfl, rfl⟩
set_option maxRecDepth 100000 in
theorem ubw_487 : Cond.code ⟨"UpdateRobotModel", "newer", "(II)I"⟩ prog_6_method_5_code 3 (some .int) ∈ ub_T := List.mem_filter.mpr ⟨List.mem_of_getElem? (i := 487) rfl, rfl⟩
set_option maxRecDepth 100000 in
theorem ubw_488 : Cond.methodLink "UpdateRobotModel" 74 ⟨"UpdateRobotModel", "isName", "(I)Z"⟩ ∈ ub_T := List.mem_filter.mpr ⟨List.mem_of_getElem? (i := 488) (by decide +kernel), rfl⟩
set_option maxRecDepth 100000 in
theorem ubw_490 : Cond.instanceMethod ⟨"UpdateRobotModel", "isName", "(I)Z"⟩ ∈ ub_T := List.mem_filter.mpr ⟨List.mem_of_getElem? (i := 490) (by decide +kernel), rfl⟩
set_option maxRecDepth 100000 in
theorem ubw_491 : Cond.code ⟨"UpdateRobotModel", "isName", "(I)Z"⟩ prog_6_method_3_code 2 (some .boolean) ∈ ub_T := List.mem_filter.mpr ⟨List.mem_of_getElem? (i := 491) rfl, rfl⟩
set_option maxRecDepth 100000 in
theorem ubw_495 : Cond.code ⟨"UpdateRobotModel", "needs", "(IIII)Z"⟩ prog_6_method_6_code 5 (some .boolean) ∈ ub_T := List.mem_filter.mpr ⟨List.mem_of_getElem? (i := 495) rfl, rfl⟩
set_option maxRecDepth 100000 in
theorem ubw_499 : Cond.code ⟨"UpdateRobotModel", "rule", "(IIII)Z"⟩ prog_6_method_7_code 5 (some .boolean) ∈ ub_T := List.mem_filter.mpr ⟨List.mem_of_getElem? (i := 499) rfl, rfl⟩
set_option maxRecDepth 100000 in
theorem ubw_503 : Cond.code ⟨"UpdateRobotModel", "advise", "(II)Z"⟩ prog_6_method_8_code 3 (some .boolean) ∈ ub_T := List.mem_filter.mpr ⟨List.mem_of_getElem? (i := 503) rfl, rfl⟩
set_option maxRecDepth 100000 in
theorem ubw_507 : Cond.code ⟨"UpdateRobotModel", "has", "(I)I"⟩ prog_6_method_9_code 2 (some .int) ∈ ub_T := List.mem_filter.mpr ⟨List.mem_of_getElem? (i := 507) rfl, rfl⟩
set_option maxRecDepth 100000 in
theorem ubw_511 : Cond.code ⟨"UpdateRobotModel", "goal", "(I)I"⟩ prog_6_method_13_code 2 (some .int) ∈ ub_T := List.mem_filter.mpr ⟨List.mem_of_getElem? (i := 511) rfl, rfl⟩
set_option maxRecDepth 100000 in
theorem ubw_512 : Cond.methodLink "UpdateRobotModel" 85 ⟨"UpdateRobotModel", "goalOf", "(I)I"⟩ ∈ ub_T := List.mem_filter.mpr ⟨List.mem_of_getElem? (i := 512) (by decide +kernel), rfl⟩
set_option maxRecDepth 100000 in
theorem ubw_514 : Cond.instanceMethod ⟨"UpdateRobotModel", "goalOf", "(I)I"⟩ ∈ ub_T := List.mem_filter.mpr ⟨List.mem_of_getElem? (i := 514) (by decide +kernel), rfl⟩
set_option maxRecDepth 100000 in
theorem ubw_515 : Cond.code ⟨"UpdateRobotModel", "goalOf", "(I)I"⟩ prog_6_method_12_code 3 (some .int) ∈ ub_T := List.mem_filter.mpr ⟨List.mem_of_getElem? (i := 515) rfl, rfl⟩
set_option maxRecDepth 100000 in
theorem ubw_516 : Cond.methodLink "UpdateRobotModel" 78 ⟨"UpdateRobotModel", "isAllowed", "(II)Z"⟩ ∈ ub_T := List.mem_filter.mpr ⟨List.mem_of_getElem? (i := 516) (by decide +kernel), rfl⟩
set_option maxRecDepth 100000 in
theorem ubw_518 : Cond.instanceMethod ⟨"UpdateRobotModel", "isAllowed", "(II)Z"⟩ ∈ ub_T := List.mem_filter.mpr ⟨List.mem_of_getElem? (i := 518) (by decide +kernel), rfl⟩
set_option maxRecDepth 100000 in
theorem ubw_519 : Cond.code ⟨"UpdateRobotModel", "isAllowed", "(II)Z"⟩ prog_6_method_11_code 5 (some .boolean) ∈ ub_T := List.mem_filter.mpr ⟨List.mem_of_getElem? (i := 519) rfl, rfl⟩
set_option maxRecDepth 100000 in
theorem ubw_520 : Cond.methodLink "UpdateRobotModel" 82 ⟨"UpdateRobotModel", "isHit", "(I)Z"⟩ ∈ ub_T := List.mem_filter.mpr ⟨List.mem_of_getElem? (i := 520) (by decide +kernel), rfl⟩
set_option maxRecDepth 100000 in
theorem ubw_522 : Cond.instanceMethod ⟨"UpdateRobotModel", "isHit", "(I)Z"⟩ ∈ ub_T := List.mem_filter.mpr ⟨List.mem_of_getElem? (i := 522) (by decide +kernel), rfl⟩
set_option maxRecDepth 100000 in
theorem ubw_523 : Cond.code ⟨"UpdateRobotModel", "isHit", "(I)Z"⟩ prog_6_method_10_code 2 (some .boolean) ∈ ub_T := List.mem_filter.mpr ⟨List.mem_of_getElem? (i := 523) rfl, rfl⟩
set_option maxRecDepth 100000 in
theorem ubw_527 : Cond.code ⟨"UpdateRobotModel", "chief", "(I)I"⟩ prog_6_method_16_code 2 (some .int) ∈ ub_T := List.mem_filter.mpr ⟨List.mem_of_getElem? (i := 527) rfl, rfl⟩
set_option maxRecDepth 100000 in
theorem ubw_528 : Cond.methodLink "UpdateRobotModel" 92 ⟨"UpdateRobotModel", "chiefOf", "(I)I"⟩ ∈ ub_T := List.mem_filter.mpr ⟨List.mem_of_getElem? (i := 528) (by decide +kernel), rfl⟩
set_option maxRecDepth 100000 in
theorem ubw_530 : Cond.instanceMethod ⟨"UpdateRobotModel", "chiefOf", "(I)I"⟩ ∈ ub_T := List.mem_filter.mpr ⟨List.mem_of_getElem? (i := 530) (by decide +kernel), rfl⟩
set_option maxRecDepth 100000 in
theorem ubw_531 : Cond.code ⟨"UpdateRobotModel", "chiefOf", "(I)I"⟩ prog_6_method_15_code 3 (some .int) ∈ ub_T := List.mem_filter.mpr ⟨List.mem_of_getElem? (i := 531) rfl, rfl⟩
set_option maxRecDepth 100000 in
theorem ubw_532 : Cond.methodLink "UpdateRobotModel" 89 ⟨"UpdateRobotModel", "areOne", "(II)Z"⟩ ∈ ub_T := List.mem_filter.mpr ⟨List.mem_of_getElem? (i := 532) (by decide +kernel), rfl⟩
set_option maxRecDepth 100000 in
theorem ubw_534 : Cond.instanceMethod ⟨"UpdateRobotModel", "areOne", "(II)Z"⟩ ∈ ub_T := List.mem_filter.mpr ⟨List.mem_of_getElem? (i := 534) (by decide +kernel), rfl⟩
set_option maxRecDepth 100000 in
theorem ubw_535 : Cond.code ⟨"UpdateRobotModel", "areOne", "(II)Z"⟩ prog_6_method_14_code 3 (some .boolean) ∈ ub_T := List.mem_filter.mpr ⟨List.mem_of_getElem? (i := 535) rfl, rfl⟩
set_option maxRecDepth 100000 in
theorem ubw_539 : Cond.code ⟨"UpdateRobotModel", "solve", "(I)I"⟩ prog_6_method_19_code 3 (some .int) ∈ ub_T := List.mem_filter.mpr ⟨List.mem_of_getElem? (i := 539) rfl, rfl⟩
set_option maxRecDepth 100000 in
theorem ubw_540 : Cond.methodLink "UpdateRobotModel" 102 ⟨"UpdateRobotModel", "find", "(I)I"⟩ ∈ ub_T := List.mem_filter.mpr ⟨List.mem_of_getElem? (i := 540) (by decide +kernel), rfl⟩
set_option maxRecDepth 100000 in
theorem ubw_542 : Cond.instanceMethod ⟨"UpdateRobotModel", "find", "(I)I"⟩ ∈ ub_T := List.mem_filter.mpr ⟨List.mem_of_getElem? (i := 542) (by decide +kernel), rfl⟩
set_option maxRecDepth 100000 in
theorem ubw_543 : Cond.code ⟨"UpdateRobotModel", "find", "(I)I"⟩ prog_6_method_18_code 4 (some .int) ∈ ub_T := List.mem_filter.mpr ⟨List.mem_of_getElem? (i := 543) rfl, rfl⟩
set_option maxRecDepth 100000 in
theorem ubw_544 : Cond.methodLink "UpdateRobotModel" 95 ⟨"UpdateRobotModel", "wanting", "()I"⟩ ∈ ub_T := List.mem_filter.mpr ⟨List.mem_of_getElem? (i := 544) (by decide +kernel), rfl⟩
set_option maxRecDepth 100000 in
theorem ubw_546 : Cond.instanceMethod ⟨"UpdateRobotModel", "wanting", "()I"⟩ ∈ ub_T := List.mem_filter.mpr ⟨List.mem_of_getElem? (i := 546) (by decide +kernel), rfl⟩
set_option maxRecDepth 100000 in
theorem ubw_547 : Cond.code ⟨"UpdateRobotModel", "wanting", "()I"⟩ prog_6_method_17_code 3 (some .int) ∈ ub_T := List.mem_filter.mpr ⟨List.mem_of_getElem? (i := 547) rfl, rfl⟩
set_option maxRecDepth 100000 in
theorem ubw_551 : Cond.code ⟨"UpdateRobotModel", "tick", "(I)I"⟩ prog_6_method_20_code 2 (some .int) ∈ ub_T := List.mem_filter.mpr ⟨List.mem_of_getElem? (i := 551) rfl, rfl⟩
set_option maxRecDepth 100000 in
theorem ubw_552 : Cond.constant "UpdateRobotModel" 105 (100000 : Int32) ∈ ub_T := List.mem_filter.mpr ⟨List.mem_of_getElem? (i := 552) (by decide +kernel), rfl⟩
set_option maxRecDepth 100000 in
theorem ubw_553 : Cond.constant "UpdateRobotModel" 109 (1000000000 : Int32) ∈ ub_T := List.mem_filter.mpr ⟨List.mem_of_getElem? (i := 553) (by decide +kernel), rfl⟩
set_option maxRecDepth 100000 in
theorem ubw_557 : Cond.code ⟨"UpdateRobotModel", "run", "()I"⟩ prog_6_method_29_code 4 (some .int) ∈ ub_T := List.mem_filter.mpr ⟨List.mem_of_getElem? (i := 557) rfl, rfl⟩
set_option maxRecDepth 100000 in
theorem ubw_558 : Cond.methodLink "UpdateRobotModel" 136 ⟨"UpdateRobotModel", "isDue", "(I)Z"⟩ ∈ ub_T := List.mem_filter.mpr ⟨List.mem_of_getElem? (i := 558) (by decide +kernel), rfl⟩
set_option maxRecDepth 100000 in
theorem ubw_560 : Cond.instanceMethod ⟨"UpdateRobotModel", "isDue", "(I)Z"⟩ ∈ ub_T := List.mem_filter.mpr ⟨List.mem_of_getElem? (i := 560) (by decide +kernel), rfl⟩
set_option maxRecDepth 100000 in
theorem ubw_561 : Cond.code ⟨"UpdateRobotModel", "isDue", "(I)Z"⟩ prog_6_method_26_code 5 (some .boolean) ∈ ub_T := List.mem_filter.mpr ⟨List.mem_of_getElem? (i := 561) rfl, rfl⟩
set_option maxRecDepth 100000 in
theorem ubw_562 : Cond.methodLink "UpdateRobotModel" 139 ⟨"UpdateRobotModel", "propose", "(I)I"⟩ ∈ ub_T := List.mem_filter.mpr ⟨List.mem_of_getElem? (i := 562) (by decide +kernel), rfl⟩
set_option maxRecDepth 100000 in
theorem ubw_564 : Cond.instanceMethod ⟨"UpdateRobotModel", "propose", "(I)I"⟩ ∈ ub_T := List.mem_filter.mpr ⟨List.mem_of_getElem? (i := 564) (by decide +kernel), rfl⟩
set_option maxRecDepth 100000 in
theorem ubw_565 : Cond.code ⟨"UpdateRobotModel", "propose", "(I)I"⟩ prog_6_method_28_code 6 (some .int) ∈ ub_T := List.mem_filter.mpr ⟨List.mem_of_getElem? (i := 565) rfl, rfl⟩
set_option maxRecDepth 100000 in
theorem ubw_566 : Cond.methodLink "UpdateRobotModel" 116 ⟨"UpdateRobotModel", "latest", "(II)I"⟩ ∈ ub_T := List.mem_filter.mpr ⟨List.mem_of_getElem? (i := 566) (by decide +kernel), rfl⟩
set_option maxRecDepth 100000 in
theorem ubw_568 : Cond.instanceMethod ⟨"UpdateRobotModel", "latest", "(II)I"⟩ ∈ ub_T := List.mem_filter.mpr ⟨List.mem_of_getElem? (i := 568) (by decide +kernel), rfl⟩
set_option maxRecDepth 100000 in
theorem ubw_569 : Cond.code ⟨"UpdateRobotModel", "latest", "(II)I"⟩ prog_6_method_24_code 5 (some .int) ∈ ub_T := List.mem_filter.mpr ⟨List.mem_of_getElem? (i := 569) rfl, rfl⟩
set_option maxRecDepth 100000 in
theorem ubw_570 : Cond.methodLink "UpdateRobotModel" 120 ⟨"UpdateRobotModel", "isSame", "(I)Z"⟩ ∈ ub_T := List.mem_filter.mpr ⟨List.mem_of_getElem? (i := 570) (by decide +kernel), rfl⟩
set_option maxRecDepth 100000 in
theorem ubw_572 : Cond.instanceMethod ⟨"UpdateRobotModel", "isSame", "(I)Z"⟩ ∈ ub_T := List.mem_filter.mpr ⟨List.mem_of_getElem? (i := 572) (by decide +kernel), rfl⟩
set_option maxRecDepth 100000 in
theorem ubw_573 : Cond.code ⟨"UpdateRobotModel", "isSame", "(I)Z"⟩ prog_6_method_22_code 4 (some .boolean) ∈ ub_T := List.mem_filter.mpr ⟨List.mem_of_getElem? (i := 573) rfl, rfl⟩
set_option maxRecDepth 100000 in
theorem ubw_574 : Cond.methodLink "UpdateRobotModel" 110 ⟨"UpdateRobotModel", "raised", "(I)I"⟩ ∈ ub_T := List.mem_filter.mpr ⟨List.mem_of_getElem? (i := 574) (by decide +kernel), rfl⟩
set_option maxRecDepth 100000 in
theorem ubw_576 : Cond.instanceMethod ⟨"UpdateRobotModel", "raised", "(I)I"⟩ ∈ ub_T := List.mem_filter.mpr ⟨List.mem_of_getElem? (i := 576) (by decide +kernel), rfl⟩
set_option maxRecDepth 100000 in
theorem ubw_577 : Cond.code ⟨"UpdateRobotModel", "raised", "(I)I"⟩ prog_6_method_21_code 2 (some .int) ∈ ub_T := List.mem_filter.mpr ⟨List.mem_of_getElem? (i := 577) rfl, rfl⟩
set_option maxRecDepth 100000 in
theorem ubw_578 : Cond.methodLink "UpdateRobotModel" 123 ⟨"UpdateRobotModel", "isUnitHit", "(I)Z"⟩ ∈ ub_T := List.mem_filter.mpr ⟨List.mem_of_getElem? (i := 578) (by decide +kernel), rfl⟩
set_option maxRecDepth 100000 in
theorem ubw_580 : Cond.instanceMethod ⟨"UpdateRobotModel", "isUnitHit", "(I)Z"⟩ ∈ ub_T := List.mem_filter.mpr ⟨List.mem_of_getElem? (i := 580) (by decide +kernel), rfl⟩
set_option maxRecDepth 100000 in
theorem ubw_581 : Cond.code ⟨"UpdateRobotModel", "isUnitHit", "(I)Z"⟩ prog_6_method_27_code 4 (some .boolean) ∈ ub_T := List.mem_filter.mpr ⟨List.mem_of_getElem? (i := 581) rfl, rfl⟩
set_option maxRecDepth 100000 in
theorem ubw_582 : Cond.methodLink "UpdateRobotModel" 126 ⟨"UpdateRobotModel", "opens", "(I)I"⟩ ∈ ub_T := List.mem_filter.mpr ⟨List.mem_of_getElem? (i := 582) (by decide +kernel), rfl⟩
set_option maxRecDepth 100000 in
theorem ubw_584 : Cond.instanceMethod ⟨"UpdateRobotModel", "opens", "(I)I"⟩ ∈ ub_T := List.mem_filter.mpr ⟨List.mem_of_getElem? (i := 584) (by decide +kernel), rfl⟩
set_option maxRecDepth 100000 in
theorem ubw_585 : Cond.code ⟨"UpdateRobotModel", "opens", "(I)I"⟩ prog_6_method_25_code 4 (some .int) ∈ ub_T := List.mem_filter.mpr ⟨List.mem_of_getElem? (i := 585) rfl, rfl⟩
set_option maxRecDepth 100000 in
theorem ubw_586 : Cond.methodLink "UpdateRobotModel" 129 ⟨"UpdateRobotModel", "fill", "(I)V"⟩ ∈ ub_T := List.mem_filter.mpr ⟨List.mem_of_getElem? (i := 586) (by decide +kernel), rfl⟩
set_option maxRecDepth 100000 in
theorem ubw_588 : Cond.instanceMethod ⟨"UpdateRobotModel", "fill", "(I)V"⟩ ∈ ub_T := List.mem_filter.mpr ⟨List.mem_of_getElem? (i := 588) (by decide +kernel), rfl⟩
set_option maxRecDepth 100000 in
theorem ubw_589 : Cond.code ⟨"UpdateRobotModel", "fill", "(I)V"⟩ prog_6_method_23_code 3 none ∈ ub_T := List.mem_filter.mpr ⟨List.mem_of_getElem? (i := 589) rfl, rfl⟩
set_option maxRecDepth 100000 in
theorem ubw_593 : Cond.code ⟨"UpdateRobotModel", "waiting", "()I"⟩ prog_6_method_30_code 1 (some .int) ∈ ub_T := List.mem_filter.mpr ⟨List.mem_of_getElem? (i := 593) rfl, rfl⟩
set_option maxRecDepth 100000 in
theorem ubw_597 : Cond.code ⟨"UpdateRobotModel", "about", "(II)I"⟩ prog_6_method_31_code 3 (some .int) ∈ ub_T := List.mem_filter.mpr ⟨List.mem_of_getElem? (i := 597) rfl, rfl⟩
set_option maxRecDepth 100000 in
theorem ubw_601 : Cond.code ⟨"UpdateRobotModel", "target", "(II)I"⟩ prog_6_method_32_code 3 (some .int) ∈ ub_T := List.mem_filter.mpr ⟨List.mem_of_getElem? (i := 601) rfl, rfl⟩
set_option maxRecDepth 100000 in
theorem ubw_605 : Cond.code ⟨"UpdateRobotModel", "pass", "(IZ)I"⟩ prog_6_method_34_code 8 (some .int) ∈ ub_T := List.mem_filter.mpr ⟨List.mem_of_getElem? (i := 605) rfl, rfl⟩
set_option maxRecDepth 100000 in
theorem ubw_606 : Cond.methodLink "UpdateRobotModel" 142 ⟨"UpdateRobotModel", "redo", "(I)V"⟩ ∈ ub_T := List.mem_filter.mpr ⟨List.mem_of_getElem? (i := 606) (by decide +kernel), rfl⟩
set_option maxRecDepth 100000 in
theorem ubw_608 : Cond.instanceMethod ⟨"UpdateRobotModel", "redo", "(I)V"⟩ ∈ ub_T := List.mem_filter.mpr ⟨List.mem_of_getElem? (i := 608) (by decide +kernel), rfl⟩
set_option maxRecDepth 100000 in
theorem ubw_609 : Cond.code ⟨"UpdateRobotModel", "redo", "(I)V"⟩ prog_6_method_33_code 3 none ∈ ub_T := List.mem_filter.mpr ⟨List.mem_of_getElem? (i := 609) rfl, rfl⟩
set_option maxRecDepth 100000 in
theorem ubw_613 : Cond.code ⟨"UpdateRobotModel", "open", "(I)I"⟩ prog_6_method_35_code 2 (some .int) ∈ ub_T := List.mem_filter.mpr ⟨List.mem_of_getElem? (i := 613) rfl, rfl⟩
theorem ub_w_min_s : Cond.static Lib.Math.min.name ∈ ub_T := ubw_44
theorem ub_w_min_c : Cond.code Lib.Math.min.name Lib.Math.min.code 2 (some .int) ∈ ub_T := ubw_45
theorem ub_w_max_s : Cond.static Lib.Math.max.name ∈ ub_T := ubw_47
theorem ub_w_max_c : Cond.code Lib.Math.max.name Lib.Math.max.code 2 (some .int) ∈ ub_T := ubw_48
theorem ub_w_Math_i : Cond.initialized "java/lang/Math" ∈ ub_T := ubw_30
abbrev urb_Rb_isRepository : ByteArray := prog_1_method_18_code
abbrev ury_Rb_isRepository : MethodName := ⟨"UpdateRobot", "isRepository", "(I)Z"⟩
abbrev urs_Rb_isRepository : List Cond := .code ury_Rb_isRepository urb_Rb_isRepository 1 (some .boolean) :: ub_T
abbrev urr_Rb_isRepository : Room := { frames := 0, cells := 0, slots := 0, locals := 0 }
theorem urm_Rb_isRepository : Cond.code ury_Rb_isRepository urb_Rb_isRepository 1 (some .boolean) ∈ ub_T := ubw_185
abbrev urb_Nm_add : ByteArray := prog_2_method_4_code
abbrev ury_Nm_add : MethodName := ⟨"UpdateRobot$Names", "add", "(I)I"⟩
abbrev urs_Nm_add : List Cond := .code ury_Nm_add urb_Nm_add 3 (some .int) :: ub_T
abbrev urr_Nm_add : Room := { frames := 0, cells := 0, slots := 0, locals := 0 }
theorem urm_Nm_add : Cond.code ury_Nm_add urb_Nm_add 3 (some .int) ∈ ub_T := ubw_189
abbrev urb_Rb_name : ByteArray := prog_1_method_2_code
abbrev ury_Rb_name : MethodName := ⟨"UpdateRobot", "name", "(I)I"⟩
abbrev urs_Rb_name : List Cond := .code ury_Rb_name urb_Rb_name 2 (some .int) :: ub_T
abbrev urr_Rb_name : Room := { frames := 1, cells := 0, slots := 0, locals := 22 }
theorem urm_Rb_name : Cond.code ury_Rb_name urb_Rb_name 2 (some .int) ∈ ub_T := ubw_182
abbrev urb_Nm_isKnown : ByteArray := prog_2_method_2_code
abbrev ury_Nm_isKnown : MethodName := ⟨"UpdateRobot$Names", "isKnown", "(I)Z"⟩
abbrev urs_Nm_isKnown : List Cond := .code ury_Nm_isKnown urb_Nm_isKnown 2 (some .boolean) :: ub_T
abbrev urr_Nm_isKnown : Room := { frames := 0, cells := 0, slots := 0, locals := 0 }
theorem urm_Nm_isKnown : Cond.code ury_Nm_isKnown urb_Nm_isKnown 2 (some .boolean) ∈ ub_T := ubw_197
abbrev urb_Nm_addVersion : ByteArray := prog_2_method_5_code
abbrev ury_Nm_addVersion : MethodName := ⟨"UpdateRobot$Names", "addVersion", "(II)I"⟩
abbrev urs_Nm_addVersion : List Cond := .code ury_Nm_addVersion urb_Nm_addVersion 4 (some .int) :: ub_T
abbrev urr_Nm_addVersion : Room := { frames := 0, cells := 0, slots := 0, locals := 0 }
theorem urm_Nm_addVersion : Cond.code ury_Nm_addVersion urb_Nm_addVersion 4 (some .int) ∈ ub_T := ubw_201
abbrev urb_Rb_newer : ByteArray := prog_1_method_3_code
abbrev ury_Rb_newer : MethodName := ⟨"UpdateRobot", "newer", "(II)I"⟩
abbrev urs_Rb_newer : List Cond := .code ury_Rb_newer urb_Rb_newer 3 (some .int) :: ub_T
abbrev urr_Rb_newer : Room := { frames := 1, cells := 0, slots := 0, locals := 23 }
theorem urm_Rb_newer : Cond.code ury_Rb_newer urb_Rb_newer 3 (some .int) ∈ ub_T := ubw_193
abbrev urb_Nm_hasVersion : ByteArray := prog_2_method_3_code
abbrev ury_Nm_hasVersion : MethodName := ⟨"UpdateRobot$Names", "hasVersion", "(II)Z"⟩
abbrev urs_Nm_hasVersion : List Cond := .code ury_Nm_hasVersion urb_Nm_hasVersion 3 (some .boolean) :: ub_T
abbrev urr_Nm_hasVersion : Room := { frames := 1, cells := 0, slots := 0, locals := 21 }
theorem urm_Nm_hasVersion : Cond.code ury_Nm_hasVersion urb_Nm_hasVersion 3 (some .boolean) ∈ ub_T := ubw_209
abbrev urb_Rb_needs : ByteArray := prog_1_method_4_code
abbrev ury_Rb_needs : MethodName := ⟨"UpdateRobot", "needs", "(IIII)Z"⟩
abbrev urs_Rb_needs : List Cond := .code ury_Rb_needs urb_Rb_needs 5 (some .boolean) :: ub_T
abbrev urr_Rb_needs : Room := { frames := 2, cells := 0, slots := 0, locals := 43 }
theorem urm_Rb_needs : Cond.code ury_Rb_needs urb_Rb_needs 5 (some .boolean) ∈ ub_T := ubw_205
abbrev urb_Rb_rule : ByteArray := prog_1_method_5_code
abbrev ury_Rb_rule : MethodName := ⟨"UpdateRobot", "rule", "(IIII)Z"⟩
abbrev urs_Rb_rule : List Cond := .code ury_Rb_rule urb_Rb_rule 5 (some .boolean) :: ub_T
abbrev urr_Rb_rule : Room := { frames := 1, cells := 0, slots := 0, locals := 21 }
theorem urm_Rb_rule : Cond.code ury_Rb_rule urb_Rb_rule 5 (some .boolean) ∈ ub_T := ubw_214
abbrev urb_Rb_advise : ByteArray := prog_1_method_6_code
abbrev ury_Rb_advise : MethodName := ⟨"UpdateRobot", "advise", "(II)Z"⟩
abbrev urs_Rb_advise : List Cond := .code ury_Rb_advise urb_Rb_advise 3 (some .boolean) :: ub_T
abbrev urr_Rb_advise : Room := { frames := 2, cells := 0, slots := 0, locals := 43 }
theorem urm_Rb_advise : Cond.code ury_Rb_advise urb_Rb_advise 3 (some .boolean) ∈ ub_T := ubw_218
abbrev urb_Rb_has : ByteArray := prog_1_method_7_code
abbrev ury_Rb_has : MethodName := ⟨"UpdateRobot", "has", "(I)I"⟩
abbrev urs_Rb_has : List Cond := .code ury_Rb_has urb_Rb_has 2 (some .int) :: ub_T
abbrev urr_Rb_has : Room := { frames := 1, cells := 0, slots := 0, locals := 21 }
theorem urm_Rb_has : Cond.code ury_Rb_has urb_Rb_has 2 (some .int) ∈ ub_T := ubw_222
abbrev urb_Nm_farthestAllowed : ByteArray := prog_2_method_8_code
abbrev ury_Nm_farthestAllowed : MethodName := ⟨"UpdateRobot$Names", "farthestAllowed", "(I)I"⟩
abbrev urs_Nm_farthestAllowed : List Cond := .code ury_Nm_farthestAllowed urb_Nm_farthestAllowed 4 (some .int) :: ub_T
abbrev urr_Nm_farthestAllowed : Room := { frames := 0, cells := 0, slots := 0, locals := 0 }
theorem urm_Nm_farthestAllowed : Cond.code ury_Nm_farthestAllowed urb_Nm_farthestAllowed 4 (some .int) ∈ ub_T := ubw_234
abbrev urb_Nm_isHit : ByteArray := prog_2_method_6_code
abbrev ury_Nm_isHit : MethodName := ⟨"UpdateRobot$Names", "isHit", "(I)Z"⟩
abbrev urs_Nm_isHit : List Cond := .code ury_Nm_isHit urb_Nm_isHit 2 (some .boolean) :: ub_T
abbrev urr_Nm_isHit : Room := { frames := 0, cells := 0, slots := 0, locals := 0 }
theorem urm_Nm_isHit : Cond.code ury_Nm_isHit urb_Nm_isHit 2 (some .boolean) ∈ ub_T := ubw_238
abbrev urb_Nm_goalOf : ByteArray := prog_2_method_7_code
abbrev ury_Nm_goalOf : MethodName := ⟨"UpdateRobot$Names", "goalOf", "(I)I"⟩
abbrev urs_Nm_goalOf : List Cond := .code ury_Nm_goalOf urb_Nm_goalOf 4 (some .int) :: ub_T
abbrev urr_Nm_goalOf : Room := { frames := 1, cells := 0, slots := 0, locals := 23 }
theorem urm_Nm_goalOf : Cond.code ury_Nm_goalOf urb_Nm_goalOf 4 (some .int) ∈ ub_T := ubw_230
abbrev urb_Rb_goal : ByteArray := prog_1_method_8_code
abbrev ury_Rb_goal : MethodName := ⟨"UpdateRobot", "goal", "(I)I"⟩
abbrev urs_Rb_goal : List Cond := .code ury_Rb_goal urb_Rb_goal 2 (some .int) :: ub_T
abbrev urr_Rb_goal : Room := { frames := 2, cells := 0, slots := 0, locals := 46 }
theorem urm_Rb_goal : Cond.code ury_Rb_goal urb_Rb_goal 2 (some .int) ∈ ub_T := ubw_226
abbrev urb_Nm_chiefOf : ByteArray := prog_2_method_9_code
abbrev ury_Nm_chiefOf : MethodName := ⟨"UpdateRobot$Names", "chiefOf", "(I)I"⟩
abbrev urs_Nm_chiefOf : List Cond := .code ury_Nm_chiefOf urb_Nm_chiefOf 3 (some .int) :: ub_T
abbrev urr_Nm_chiefOf : Room := { frames := 0, cells := 0, slots := 0, locals := 0 }
theorem urm_Nm_chiefOf : Cond.code ury_Nm_chiefOf urb_Nm_chiefOf 3 (some .int) ∈ ub_T := ubw_246
abbrev urb_Rb_chief : ByteArray := prog_1_method_9_code
abbrev ury_Rb_chief : MethodName := ⟨"UpdateRobot", "chief", "(I)I"⟩
abbrev urs_Rb_chief : List Cond := .code ury_Rb_chief urb_Rb_chief 2 (some .int) :: ub_T
abbrev urr_Rb_chief : Room := { frames := 1, cells := 0, slots := 0, locals := 22 }
theorem urm_Rb_chief : Cond.code ury_Rb_chief urb_Rb_chief 2 (some .int) ∈ ub_T := ubw_242
abbrev urb_Nm_isChief : ByteArray := prog_2_method_10_code
abbrev ury_Nm_isChief : MethodName := ⟨"UpdateRobot$Names", "isChief", "(I)Z"⟩
abbrev urs_Nm_isChief : List Cond := .code ury_Nm_isChief urb_Nm_isChief 2 (some .boolean) :: ub_T
abbrev urr_Nm_isChief : Room := { frames := 1, cells := 0, slots := 0, locals := 22 }
theorem urm_Nm_isChief : Cond.code ury_Nm_isChief urb_Nm_isChief 2 (some .boolean) ∈ ub_T := ubw_254
abbrev urb_So_setOut : ByteArray := prog_4_method_3_code
abbrev ury_So_setOut : MethodName := ⟨"UpdateRobot$Solver", "setOut", "(LUpdateRobot$Names;I)V"⟩
abbrev urs_So_setOut : List Cond := .code ury_So_setOut urb_So_setOut 4 none :: ub_T
abbrev urr_So_setOut : Room := { frames := 2, cells := 0, slots := 0, locals := 46 }
theorem urm_So_setOut : Cond.code ury_So_setOut urb_So_setOut 4 none ∈ ub_T := ubw_263
abbrev urb_So_lacksAtTarget : ByteArray := prog_4_method_5_code
abbrev ury_So_lacksAtTarget : MethodName := ⟨"UpdateRobot$Solver", "lacksAtTarget", "(LUpdateRobot$Names;I)Z"⟩
abbrev urs_So_lacksAtTarget : List Cond := .code ury_So_lacksAtTarget urb_So_lacksAtTarget 5 (some .boolean) :: ub_T
abbrev urr_So_lacksAtTarget : Room := { frames := 2, cells := 0, slots := 0, locals := 43 }
theorem urm_So_lacksAtTarget : Cond.code ury_So_lacksAtTarget urb_So_lacksAtTarget 5 (some .boolean) ∈ ub_T := ubw_273
abbrev urb_So_firstNeedy : ByteArray := prog_4_method_4_code
abbrev ury_So_firstNeedy : MethodName := ⟨"UpdateRobot$Solver", "firstNeedy", "(LUpdateRobot$Names;)I"⟩
abbrev urs_So_firstNeedy : List Cond := .code ury_So_firstNeedy urb_So_firstNeedy 3 (some .int) :: ub_T
abbrev urr_So_firstNeedy : Room := { frames := 3, cells := 0, slots := 0, locals := 67 }
theorem urm_So_firstNeedy : Cond.code ury_So_firstNeedy urb_So_firstNeedy 3 (some .int) ∈ ub_T := ubw_269
abbrev urb_So_keepRaised : ByteArray := prog_4_method_6_code
abbrev ury_So_keepRaised : MethodName := ⟨"UpdateRobot$Solver", "keepRaised", "(LUpdateRobot$Names;)I"⟩
abbrev urs_So_keepRaised : List Cond := .code ury_So_keepRaised urb_So_keepRaised 4 (some .int) :: ub_T
abbrev urr_So_keepRaised : Room := { frames := 0, cells := 0, slots := 0, locals := 0 }
theorem urm_So_keepRaised : Cond.code ury_So_keepRaised urb_So_keepRaised 4 (some .int) ∈ ub_T := ubw_280
abbrev urb_So_solveUnit : ByteArray := prog_4_method_2_code
abbrev ury_So_solveUnit : MethodName := ⟨"UpdateRobot$Solver", "solveUnit", "(LUpdateRobot$Names;I)I"⟩
abbrev urs_So_solveUnit : List Cond := .code ury_So_solveUnit urb_So_solveUnit 7 (some .int) :: ub_T
abbrev urr_So_solveUnit : Room := { frames := 4, cells := 0, slots := 0, locals := 89 }
theorem urm_So_solveUnit : Cond.code ury_So_solveUnit urb_So_solveUnit 7 (some .int) ∈ ub_T := ubw_259
abbrev urb_Rb_solve : ByteArray := prog_1_method_10_code
abbrev ury_Rb_solve : MethodName := ⟨"UpdateRobot", "solve", "(I)I"⟩
abbrev urs_Rb_solve : List Cond := .code ury_Rb_solve urb_Rb_solve 2 (some .int) :: ub_T
abbrev urr_Rb_solve : Room := { frames := 5, cells := 0, slots := 0, locals := 115 }
theorem urm_Rb_solve : Cond.code ury_Rb_solve urb_Rb_solve 2 (some .int) ∈ ub_T := ubw_250
abbrev urb_Rb_tick : ByteArray := prog_1_method_11_code
abbrev ury_Rb_tick : MethodName := ⟨"UpdateRobot", "tick", "(I)I"⟩
abbrev urs_Rb_tick : List Cond := .code ury_Rb_tick urb_Rb_tick 2 (some .int) :: ub_T
abbrev urr_Rb_tick : Room := { frames := 0, cells := 0, slots := 0, locals := 0 }
theorem urm_Rb_tick : Cond.code ury_Rb_tick urb_Rb_tick 2 (some .int) ∈ ub_T := ubw_284
abbrev urb_Nm_isUnitHit : ByteArray := prog_2_method_11_code
abbrev ury_Nm_isUnitHit : MethodName := ⟨"UpdateRobot$Names", "isUnitHit", "(I)Z"⟩
abbrev urs_Nm_isUnitHit : List Cond := .code ury_Nm_isUnitHit urb_Nm_isUnitHit 3 (some .boolean) :: ub_T
abbrev urr_Nm_isUnitHit : Room := { frames := 1, cells := 0, slots := 0, locals := 22 }
theorem urm_Nm_isUnitHit : Cond.code ury_Nm_isUnitHit urb_Nm_isUnitHit 3 (some .boolean) ∈ ub_T := ubw_298
abbrev urb_Nm_leastEvery : ByteArray := prog_2_method_12_code
abbrev ury_Nm_leastEvery : MethodName := ⟨"UpdateRobot$Names", "leastEvery", "(I)I"⟩
abbrev urs_Nm_leastEvery : List Cond := .code ury_Nm_leastEvery urb_Nm_leastEvery 4 (some .int) :: ub_T
abbrev urr_Nm_leastEvery : Room := { frames := 1, cells := 0, slots := 0, locals := 22 }
theorem urm_Nm_leastEvery : Cond.code ury_Nm_leastEvery urb_Nm_leastEvery 4 (some .int) ∈ ub_T := ubw_302
abbrev urb_Rb_isDue : ByteArray := prog_1_method_19_code
abbrev ury_Rb_isDue : MethodName := ⟨"UpdateRobot", "isDue", "(I)Z"⟩
abbrev urs_Rb_isDue : List Cond := .code ury_Rb_isDue urb_Rb_isDue 3 (some .boolean) :: ub_T
abbrev urr_Rb_isDue : Room := { frames := 2, cells := 0, slots := 0, locals := 45 }
theorem urm_Rb_isDue : Cond.code ury_Rb_isDue urb_Rb_isDue 3 (some .boolean) ∈ ub_T := ubw_294
abbrev urb_Pr_latestOf : ByteArray := prog_3_method_10_code
abbrev ury_Pr_latestOf : MethodName := ⟨"UpdateRobot$Proposals", "latestOf", "(II)I"⟩
abbrev urs_Pr_latestOf : List Cond := .code ury_Pr_latestOf urb_Pr_latestOf 4 (some .int) :: ub_T
abbrev urr_Pr_latestOf : Room := { frames := 0, cells := 0, slots := 0, locals := 0 }
theorem urm_Pr_latestOf : Cond.code ury_Pr_latestOf urb_Pr_latestOf 4 (some .int) ∈ ub_T := ubw_315
abbrev urb_Pr_openOf : ByteArray := prog_3_method_8_code
abbrev ury_Pr_openOf : MethodName := ⟨"UpdateRobot$Proposals", "openOf", "(I)I"⟩
abbrev urs_Pr_openOf : List Cond := .code ury_Pr_openOf urb_Pr_openOf 2 (some .int) :: ub_T
abbrev urr_Pr_openOf : Room := { frames := 1, cells := 0, slots := 0, locals := 23 }
theorem urm_Pr_openOf : Cond.code ury_Pr_openOf urb_Pr_openOf 2 (some .int) ∈ ub_T := ubw_311
abbrev urb_Pr_isKnown : ByteArray := prog_3_method_2_code
abbrev ury_Pr_isKnown : MethodName := ⟨"UpdateRobot$Proposals", "isKnown", "(I)Z"⟩
abbrev urs_Pr_isKnown : List Cond := .code ury_Pr_isKnown urb_Pr_isKnown 2 (some .boolean) :: ub_T
abbrev urr_Pr_isKnown : Room := { frames := 0, cells := 0, slots := 0, locals := 0 }
theorem urm_Pr_isKnown : Cond.code ury_Pr_isKnown urb_Pr_isKnown 2 (some .boolean) ∈ ub_T := ubw_323
abbrev urb_Pr_closeIfAny : ByteArray := prog_3_method_7_code
abbrev ury_Pr_closeIfAny : MethodName := ⟨"UpdateRobot$Proposals", "closeIfAny", "(II)V"⟩
abbrev urs_Pr_closeIfAny : List Cond := .code ury_Pr_closeIfAny urb_Pr_closeIfAny 3 none :: ub_T
abbrev urr_Pr_closeIfAny : Room := { frames := 1, cells := 0, slots := 0, locals := 21 }
theorem urm_Pr_closeIfAny : Cond.code ury_Pr_closeIfAny urb_Pr_closeIfAny 3 none ∈ ub_T := ubw_319
abbrev urb_Pr_raisesJust : ByteArray := prog_3_method_11_code
abbrev ury_Pr_raisesJust : MethodName := ⟨"UpdateRobot$Proposals", "raisesJust", "(I[I)Z"⟩
abbrev urs_Pr_raisesJust : List Cond := .code ury_Pr_raisesJust urb_Pr_raisesJust 4 (some .boolean) :: ub_T
abbrev urr_Pr_raisesJust : Room := { frames := 1, cells := 0, slots := 0, locals := 21 }
theorem urm_Pr_raisesJust : Cond.code ury_Pr_raisesJust urb_Pr_raisesJust 4 (some .boolean) ∈ ub_T := ubw_327
abbrev urb_Pr_latestFailedOf : ByteArray := prog_3_method_9_code
abbrev ury_Pr_latestFailedOf : MethodName := ⟨"UpdateRobot$Proposals", "latestFailedOf", "(I)I"⟩
abbrev urs_Pr_latestFailedOf : List Cond := .code ury_Pr_latestFailedOf urb_Pr_latestFailedOf 2 (some .int) :: ub_T
abbrev urr_Pr_latestFailedOf : Room := { frames := 1, cells := 0, slots := 0, locals := 23 }
theorem urm_Pr_latestFailedOf : Cond.code ury_Pr_latestFailedOf urb_Pr_latestFailedOf 2 (some .int) ∈ ub_T := ubw_331
abbrev urb_Pr_isFull : ByteArray := prog_3_method_4_code
abbrev ury_Pr_isFull : MethodName := ⟨"UpdateRobot$Proposals", "isFull", "()Z"⟩
abbrev urs_Pr_isFull : List Cond := .code ury_Pr_isFull urb_Pr_isFull 1 (some .boolean) :: ub_T
abbrev urr_Pr_isFull : Room := { frames := 0, cells := 0, slots := 0, locals := 0 }
theorem urm_Pr_isFull : Cond.code ury_Pr_isFull urb_Pr_isFull 1 (some .boolean) ∈ ub_T := ubw_339
abbrev urb_Pr_isOpen : ByteArray := prog_3_method_3_code
abbrev ury_Pr_isOpen : MethodName := ⟨"UpdateRobot$Proposals", "isOpen", "(I)Z"⟩
abbrev urs_Pr_isOpen : List Cond := .code ury_Pr_isOpen urb_Pr_isOpen 2 (some .boolean) :: ub_T
abbrev urr_Pr_isOpen : Room := { frames := 1, cells := 0, slots := 0, locals := 21 }
theorem urm_Pr_isOpen : Cond.code ury_Pr_isOpen urb_Pr_isOpen 2 (some .boolean) ∈ ub_T := ubw_347
abbrev urb_Rb_openIn : ByteArray := prog_1_method_22_code
abbrev ury_Rb_openIn : MethodName := ⟨"UpdateRobot", "openIn", "(I)I"⟩
abbrev urs_Rb_openIn : List Cond := .code ury_Rb_openIn urb_Rb_openIn 4 (some .int) :: ub_T
abbrev urr_Rb_openIn : Room := { frames := 2, cells := 0, slots := 0, locals := 42 }
theorem urm_Rb_openIn : Cond.code ury_Rb_openIn urb_Rb_openIn 4 (some .int) ∈ ub_T := ubw_343
abbrev urb_Rb_mayOpen : ByteArray := prog_1_method_21_code
abbrev ury_Rb_mayOpen : MethodName := ⟨"UpdateRobot", "mayOpen", "(II)Z"⟩
abbrev urs_Rb_mayOpen : List Cond := .code ury_Rb_mayOpen urb_Rb_mayOpen 3 (some .boolean) :: ub_T
abbrev urr_Rb_mayOpen : Room := { frames := 3, cells := 0, slots := 0, locals := 65 }
theorem urm_Rb_mayOpen : Cond.code ury_Rb_mayOpen urb_Rb_mayOpen 3 (some .boolean) ∈ ub_T := ubw_335
abbrev urb_Pr_setRaised : ByteArray := prog_3_method_6_code
abbrev ury_Pr_setRaised : MethodName := ⟨"UpdateRobot$Proposals", "setRaised", "(I[I)V"⟩
abbrev urs_Pr_setRaised : List Cond := .code ury_Pr_setRaised urb_Pr_setRaised 4 none :: ub_T
abbrev urr_Pr_setRaised : Room := { frames := 0, cells := 0, slots := 0, locals := 0 }
theorem urm_Pr_setRaised : Cond.code ury_Pr_setRaised urb_Pr_setRaised 4 none ∈ ub_T := ubw_356
abbrev urb_Pr_add : ByteArray := prog_3_method_5_code
abbrev ury_Pr_add : MethodName := ⟨"UpdateRobot$Proposals", "add", "(IIZ[I)V"⟩
abbrev urs_Pr_add : List Cond := .code ury_Pr_add urb_Pr_add 6 none :: ub_T
abbrev urr_Pr_add : Room := { frames := 1, cells := 0, slots := 0, locals := 23 }
theorem urm_Pr_add : Cond.code ury_Pr_add urb_Pr_add 6 none ∈ ub_T := ubw_351
abbrev urb_Rb_review : ByteArray := prog_1_method_20_code
abbrev ury_Rb_review : MethodName := ⟨"UpdateRobot", "review", "(I)V"⟩
abbrev urs_Rb_review : List Cond := .code ury_Rb_review urb_Rb_review 3 none :: ub_T
abbrev urr_Rb_review : Room := { frames := 5, cells := 0, slots := 0, locals := 115 }
theorem urm_Rb_review : Cond.code ury_Rb_review urb_Rb_review 3 none ∈ ub_T := ubw_307
abbrev urb_Rb_run : ByteArray := prog_1_method_12_code
abbrev ury_Rb_run : MethodName := ⟨"UpdateRobot", "run", "()I"⟩
abbrev urs_Rb_run : List Cond := .code ury_Rb_run urb_Rb_run 3 (some .int) :: ub_T
abbrev urr_Rb_run : Room := { frames := 6, cells := 0, slots := 0, locals := 137 }
theorem urm_Rb_run : Cond.code ury_Rb_run urb_Rb_run 3 (some .int) ∈ ub_T := ubw_290
abbrev urb_Rb_waiting : ByteArray := prog_1_method_13_code
abbrev ury_Rb_waiting : MethodName := ⟨"UpdateRobot", "waiting", "()I"⟩
abbrev urs_Rb_waiting : List Cond := .code ury_Rb_waiting urb_Rb_waiting 1 (some .int) :: ub_T
abbrev urr_Rb_waiting : Room := { frames := 0, cells := 0, slots := 0, locals := 0 }
theorem urm_Rb_waiting : Cond.code ury_Rb_waiting urb_Rb_waiting 1 (some .int) ∈ ub_T := ubw_360
abbrev urb_Rb_about : ByteArray := prog_1_method_14_code
abbrev ury_Rb_about : MethodName := ⟨"UpdateRobot", "about", "(II)I"⟩
abbrev urs_Rb_about : List Cond := .code ury_Rb_about urb_Rb_about 3 (some .int) :: ub_T
abbrev urr_Rb_about : Room := { frames := 1, cells := 0, slots := 0, locals := 21 }
theorem urm_Rb_about : Cond.code ury_Rb_about urb_Rb_about 3 (some .int) ∈ ub_T := ubw_364
abbrev urb_Rb_target : ByteArray := prog_1_method_15_code
abbrev ury_Rb_target : MethodName := ⟨"UpdateRobot", "target", "(II)I"⟩
abbrev urs_Rb_target : List Cond := .code ury_Rb_target urb_Rb_target 3 (some .int) :: ub_T
abbrev urr_Rb_target : Room := { frames := 1, cells := 0, slots := 0, locals := 21 }
theorem urm_Rb_target : Cond.code ury_Rb_target urb_Rb_target 3 (some .int) ∈ ub_T := ubw_369
abbrev urb_Nm_moveUp : ByteArray := prog_2_method_13_code
abbrev ury_Nm_moveUp : MethodName := ⟨"UpdateRobot$Names", "moveUp", "([I)I"⟩
abbrev urs_Nm_moveUp : List Cond := .code ury_Nm_moveUp urb_Nm_moveUp 4 (some .int) :: ub_T
abbrev urr_Nm_moveUp : Room := { frames := 0, cells := 0, slots := 0, locals := 0 }
theorem urm_Nm_moveUp : Cond.code ury_Nm_moveUp urb_Nm_moveUp 4 (some .int) ∈ ub_T := ubw_377
abbrev urb_Pr_overlap : ByteArray := prog_3_method_12_code
abbrev ury_Pr_overlap : MethodName := ⟨"UpdateRobot$Proposals", "overlap", "(II)Z"⟩
abbrev urs_Pr_overlap : List Cond := .code ury_Pr_overlap urb_Pr_overlap 4 (some .boolean) :: ub_T
abbrev urr_Pr_overlap : Room := { frames := 0, cells := 0, slots := 0, locals := 0 }
theorem urm_Pr_overlap : Cond.code ury_Pr_overlap urb_Pr_overlap 4 (some .boolean) ∈ ub_T := ubw_385
abbrev urb_Rb_redo : ByteArray := prog_1_method_24_code
abbrev ury_Rb_redo : MethodName := ⟨"UpdateRobot", "redo", "(I)V"⟩
abbrev urs_Rb_redo : List Cond := .code ury_Rb_redo urb_Rb_redo 3 none :: ub_T
abbrev urr_Rb_redo : Room := { frames := 5, cells := 0, slots := 0, locals := 115 }
theorem urm_Rb_redo : Cond.code ury_Rb_redo urb_Rb_redo 3 none ∈ ub_T := ubw_389
abbrev urb_Rb_redoAllTouchedBy : ByteArray := prog_1_method_23_code
abbrev ury_Rb_redoAllTouchedBy : MethodName := ⟨"UpdateRobot", "redoAllTouchedBy", "(I)V"⟩
abbrev urs_Rb_redoAllTouchedBy : List Cond := .code ury_Rb_redoAllTouchedBy urb_Rb_redoAllTouchedBy 3 none :: ub_T
abbrev urr_Rb_redoAllTouchedBy : Room := { frames := 6, cells := 0, slots := 0, locals := 137 }
theorem urm_Rb_redoAllTouchedBy : Cond.code ury_Rb_redoAllTouchedBy urb_Rb_redoAllTouchedBy 3 none ∈ ub_T := ubw_381
abbrev urb_Rb_pass : ByteArray := prog_1_method_16_code
abbrev ury_Rb_pass : MethodName := ⟨"UpdateRobot", "pass", "(IZ)I"⟩
abbrev urs_Rb_pass : List Cond := .code ury_Rb_pass urb_Rb_pass 4 (some .int) :: ub_T
abbrev urr_Rb_pass : Room := { frames := 7, cells := 0, slots := 0, locals := 159 }
theorem urm_Rb_pass : Cond.code ury_Rb_pass urb_Rb_pass 4 (some .int) ∈ ub_T := ubw_373
abbrev urb_Rb_open : ByteArray := prog_1_method_17_code
abbrev ury_Rb_open : MethodName := ⟨"UpdateRobot", "open", "(I)I"⟩
abbrev urs_Rb_open : List Cond := .code ury_Rb_open urb_Rb_open 2 (some .int) :: ub_T
abbrev urr_Rb_open : Room := { frames := 3, cells := 0, slots := 0, locals := 65 }
theorem urm_Rb_open : Cond.code ury_Rb_open urb_Rb_open 2 (some .int) ∈ ub_T := ubw_394
abbrev urb_Nm_init : ByteArray := prog_2_method_1_code
abbrev ury_Nm_init : MethodName := ⟨"UpdateRobot$Names", "<init>", "()V"⟩
abbrev urs_Nm_init : List Cond := .code ury_Nm_init urb_Nm_init 1 none :: ub_T
abbrev urr_Nm_init : Room := { frames := 1, cells := 47, slots := 420, locals := 12 }
theorem urm_Nm_init : Cond.code ury_Nm_init urb_Nm_init 1 none ∈ ub_T := ubw_53
abbrev urb_So_init : ByteArray := prog_4_method_1_code
abbrev ury_So_init : MethodName := ⟨"UpdateRobot$Solver", "<init>", "()V"⟩
abbrev urs_So_init : List Cond := .code ury_So_init urb_So_init 1 none :: ub_T
abbrev urr_So_init : Room := { frames := 1, cells := 2, slots := 24, locals := 12 }
theorem urm_So_init : Cond.code ury_So_init urb_So_init 1 none ∈ ub_T := ubw_113
abbrev urb_Pr_init : ByteArray := prog_3_method_1_code
abbrev ury_Pr_init : MethodName := ⟨"UpdateRobot$Proposals", "<init>", "()V"⟩
abbrev urs_Pr_init : List Cond := .code ury_Pr_init urb_Pr_init 1 none :: ub_T
abbrev urr_Pr_init : Room := { frames := 1, cells := 66, slots := 1080, locals := 12 }
theorem urm_Pr_init : Cond.code ury_Pr_init urb_Pr_init 1 none ∈ ub_T := ubw_127
abbrev urb_Rb_init : ByteArray := prog_1_method_1_code
abbrev ury_Rb_init : MethodName := ⟨"UpdateRobot", "<init>", "(I)V"⟩
abbrev urs_Rb_init : List Cond := .code ury_Rb_init urb_Rb_init 2 none :: ub_T
abbrev urr_Rb_init : Room := { frames := 2, cells := 118, slots := 1545, locals := 32 }
theorem urm_Rb_init : Cond.code ury_Rb_init urb_Rb_init 2 none ∈ ub_T := ubw_39
abbrev rfb_Md_isName : ByteArray := prog_6_method_3_code
abbrev rfy_Md_isName : MethodName := ⟨"UpdateRobotModel", "isName", "(I)Z"⟩
abbrev rfs_Md_isName : List Cond := .code rfy_Md_isName rfb_Md_isName 2 (some .boolean) :: ub_T
abbrev rfr_Md_isName : Room := { frames := 0, cells := 0, slots := 0, locals := 0 }
theorem rfm_Md_isName : Cond.code rfy_Md_isName rfb_Md_isName 2 (some .boolean) ∈ ub_T := ubw_491
abbrev rfb_Md_name : ByteArray := prog_6_method_4_code
abbrev rfy_Md_name : MethodName := ⟨"UpdateRobotModel", "name", "(I)I"⟩
abbrev rfs_Md_name : List Cond := .code rfy_Md_name rfb_Md_name 2 (some .int) :: ub_T
abbrev rfr_Md_name : Room := { frames := 0, cells := 0, slots := 0, locals := 0 }
theorem rfm_Md_name : Cond.code rfy_Md_name rfb_Md_name 2 (some .int) ∈ ub_T := ubw_483
abbrev rfb_Md_newer : ByteArray := prog_6_method_5_code
abbrev rfy_Md_newer : MethodName := ⟨"UpdateRobotModel", "newer", "(II)I"⟩
abbrev rfs_Md_newer : List Cond := .code rfy_Md_newer rfb_Md_newer 3 (some .int) :: ub_T
abbrev rfr_Md_newer : Room := { frames := 1, cells := 0, slots := 0, locals := 21 }
theorem rfm_Md_newer : Cond.code rfy_Md_newer rfb_Md_newer 3 (some .int) ∈ ub_T := ubw_487
abbrev rfb_Md_needs : ByteArray := prog_6_method_6_code
abbrev rfy_Md_needs : MethodName := ⟨"UpdateRobotModel", "needs", "(IIII)Z"⟩
abbrev rfs_Md_needs : List Cond := .code rfy_Md_needs rfb_Md_needs 5 (some .boolean) :: ub_T
abbrev rfr_Md_needs : Room := { frames := 1, cells := 0, slots := 0, locals := 21 }
theorem rfm_Md_needs : Cond.code rfy_Md_needs rfb_Md_needs 5 (some .boolean) ∈ ub_T := ubw_495
abbrev rfb_Md_rule : ByteArray := prog_6_method_7_code
abbrev rfy_Md_rule : MethodName := ⟨"UpdateRobotModel", "rule", "(IIII)Z"⟩
abbrev rfs_Md_rule : List Cond := .code rfy_Md_rule rfb_Md_rule 5 (some .boolean) :: ub_T
abbrev rfr_Md_rule : Room := { frames := 1, cells := 0, slots := 0, locals := 21 }
theorem rfm_Md_rule : Cond.code rfy_Md_rule rfb_Md_rule 5 (some .boolean) ∈ ub_T := ubw_499
abbrev rfb_Md_advise : ByteArray := prog_6_method_8_code
abbrev rfy_Md_advise : MethodName := ⟨"UpdateRobotModel", "advise", "(II)Z"⟩
abbrev rfs_Md_advise : List Cond := .code rfy_Md_advise rfb_Md_advise 3 (some .boolean) :: ub_T
abbrev rfr_Md_advise : Room := { frames := 1, cells := 0, slots := 0, locals := 21 }
theorem rfm_Md_advise : Cond.code rfy_Md_advise rfb_Md_advise 3 (some .boolean) ∈ ub_T := ubw_503
abbrev rfb_Md_has : ByteArray := prog_6_method_9_code
abbrev rfy_Md_has : MethodName := ⟨"UpdateRobotModel", "has", "(I)I"⟩
abbrev rfs_Md_has : List Cond := .code rfy_Md_has rfb_Md_has 2 (some .int) :: ub_T
abbrev rfr_Md_has : Room := { frames := 1, cells := 0, slots := 0, locals := 21 }
theorem rfm_Md_has : Cond.code rfy_Md_has rfb_Md_has 2 (some .int) ∈ ub_T := ubw_507
abbrev rfb_Md_isHit : ByteArray := prog_6_method_10_code
abbrev rfy_Md_isHit : MethodName := ⟨"UpdateRobotModel", "isHit", "(I)Z"⟩
abbrev rfs_Md_isHit : List Cond := .code rfy_Md_isHit rfb_Md_isHit 2 (some .boolean) :: ub_T
abbrev rfr_Md_isHit : Room := { frames := 0, cells := 0, slots := 0, locals := 0 }
theorem rfm_Md_isHit : Cond.code rfy_Md_isHit rfb_Md_isHit 2 (some .boolean) ∈ ub_T := ubw_523
abbrev rfb_Md_isAllowed : ByteArray := prog_6_method_11_code
abbrev rfy_Md_isAllowed : MethodName := ⟨"UpdateRobotModel", "isAllowed", "(II)Z"⟩
abbrev rfs_Md_isAllowed : List Cond := .code rfy_Md_isAllowed rfb_Md_isAllowed 5 (some .boolean) :: ub_T
abbrev rfr_Md_isAllowed : Room := { frames := 0, cells := 0, slots := 0, locals := 0 }
theorem rfm_Md_isAllowed : Cond.code rfy_Md_isAllowed rfb_Md_isAllowed 5 (some .boolean) ∈ ub_T := ubw_519
abbrev rfb_Md_goalOf : ByteArray := prog_6_method_12_code
abbrev rfy_Md_goalOf : MethodName := ⟨"UpdateRobotModel", "goalOf", "(I)I"⟩
abbrev rfs_Md_goalOf : List Cond := .code rfy_Md_goalOf rfb_Md_goalOf 3 (some .int) :: ub_T
abbrev rfr_Md_goalOf : Room := { frames := 1, cells := 0, slots := 0, locals := 24 }
theorem rfm_Md_goalOf : Cond.code rfy_Md_goalOf rfb_Md_goalOf 3 (some .int) ∈ ub_T := ubw_515
abbrev rfb_Md_goal : ByteArray := prog_6_method_13_code
abbrev rfy_Md_goal : MethodName := ⟨"UpdateRobotModel", "goal", "(I)I"⟩
abbrev rfs_Md_goal : List Cond := .code rfy_Md_goal rfb_Md_goal 2 (some .int) :: ub_T
abbrev rfr_Md_goal : Room := { frames := 2, cells := 0, slots := 0, locals := 46 }
theorem rfm_Md_goal : Cond.code rfy_Md_goal rfb_Md_goal 2 (some .int) ∈ ub_T := ubw_511
abbrev rfb_Md_areOne : ByteArray := prog_6_method_14_code
abbrev rfy_Md_areOne : MethodName := ⟨"UpdateRobotModel", "areOne", "(II)Z"⟩
abbrev rfs_Md_areOne : List Cond := .code rfy_Md_areOne rfb_Md_areOne 3 (some .boolean) :: ub_T
abbrev rfr_Md_areOne : Room := { frames := 0, cells := 0, slots := 0, locals := 0 }
theorem rfm_Md_areOne : Cond.code rfy_Md_areOne rfb_Md_areOne 3 (some .boolean) ∈ ub_T := ubw_535
abbrev rfb_Md_chiefOf : ByteArray := prog_6_method_15_code
abbrev rfy_Md_chiefOf : MethodName := ⟨"UpdateRobotModel", "chiefOf", "(I)I"⟩
abbrev rfs_Md_chiefOf : List Cond := .code rfy_Md_chiefOf rfb_Md_chiefOf 3 (some .int) :: ub_T
abbrev rfr_Md_chiefOf : Room := { frames := 1, cells := 0, slots := 0, locals := 22 }
theorem rfm_Md_chiefOf : Cond.code rfy_Md_chiefOf rfb_Md_chiefOf 3 (some .int) ∈ ub_T := ubw_531
abbrev rfb_Md_chief : ByteArray := prog_6_method_16_code
abbrev rfy_Md_chief : MethodName := ⟨"UpdateRobotModel", "chief", "(I)I"⟩
abbrev rfs_Md_chief : List Cond := .code rfy_Md_chief rfb_Md_chief 2 (some .int) :: ub_T
abbrev rfr_Md_chief : Room := { frames := 2, cells := 0, slots := 0, locals := 44 }
theorem rfm_Md_chief : Cond.code rfy_Md_chief rfb_Md_chief 2 (some .int) ∈ ub_T := ubw_527
abbrev rfb_Md_wanting : ByteArray := prog_6_method_17_code
abbrev rfy_Md_wanting : MethodName := ⟨"UpdateRobotModel", "wanting", "()I"⟩
abbrev rfs_Md_wanting : List Cond := .code rfy_Md_wanting rfb_Md_wanting 3 (some .int) :: ub_T
abbrev rfr_Md_wanting : Room := { frames := 0, cells := 0, slots := 0, locals := 0 }
theorem rfm_Md_wanting : Cond.code rfy_Md_wanting rfb_Md_wanting 3 (some .int) ∈ ub_T := ubw_547
abbrev rfb_Md_find : ByteArray := prog_6_method_18_code
abbrev rfy_Md_find : MethodName := ⟨"UpdateRobotModel", "find", "(I)I"⟩
abbrev rfs_Md_find : List Cond := .code rfy_Md_find rfb_Md_find 4 (some .int) :: ub_T
abbrev rfr_Md_find : Room := { frames := 2, cells := 0, slots := 0, locals := 46 }
theorem rfm_Md_find : Cond.code rfy_Md_find rfb_Md_find 4 (some .int) ∈ ub_T := ubw_543
abbrev rfb_Md_solve : ByteArray := prog_6_method_19_code
abbrev rfy_Md_solve : MethodName := ⟨"UpdateRobotModel", "solve", "(I)I"⟩
abbrev rfs_Md_solve : List Cond := .code rfy_Md_solve rfb_Md_solve 3 (some .int) :: ub_T
abbrev rfr_Md_solve : Room := { frames := 3, cells := 0, slots := 0, locals := 69 }
theorem rfm_Md_solve : Cond.code rfy_Md_solve rfb_Md_solve 3 (some .int) ∈ ub_T := ubw_539
abbrev rfb_Md_tick : ByteArray := prog_6_method_20_code
abbrev rfy_Md_tick : MethodName := ⟨"UpdateRobotModel", "tick", "(I)I"⟩
abbrev rfs_Md_tick : List Cond := .code rfy_Md_tick rfb_Md_tick 2 (some .int) :: ub_T
abbrev rfr_Md_tick : Room := { frames := 0, cells := 0, slots := 0, locals := 0 }
theorem rfm_Md_tick : Cond.code rfy_Md_tick rfb_Md_tick 2 (some .int) ∈ ub_T := ubw_551
abbrev rfb_Md_raised : ByteArray := prog_6_method_21_code
abbrev rfy_Md_raised : MethodName := ⟨"UpdateRobotModel", "raised", "(I)I"⟩
abbrev rfs_Md_raised : List Cond := .code rfy_Md_raised rfb_Md_raised 2 (some .int) :: ub_T
abbrev rfr_Md_raised : Room := { frames := 0, cells := 0, slots := 0, locals := 0 }
theorem rfm_Md_raised : Cond.code rfy_Md_raised rfb_Md_raised 2 (some .int) ∈ ub_T := ubw_577
abbrev rfb_Md_isSame : ByteArray := prog_6_method_22_code
abbrev rfy_Md_isSame : MethodName := ⟨"UpdateRobotModel", "isSame", "(I)Z"⟩
abbrev rfs_Md_isSame : List Cond := .code rfy_Md_isSame rfb_Md_isSame 4 (some .boolean) :: ub_T
abbrev rfr_Md_isSame : Room := { frames := 1, cells := 0, slots := 0, locals := 21 }
theorem rfm_Md_isSame : Cond.code rfy_Md_isSame rfb_Md_isSame 4 (some .boolean) ∈ ub_T := ubw_573
abbrev rfb_Md_fill : ByteArray := prog_6_method_23_code
abbrev rfy_Md_fill : MethodName := ⟨"UpdateRobotModel", "fill", "(I)V"⟩
abbrev rfs_Md_fill : List Cond := .code rfy_Md_fill rfb_Md_fill 3 none :: ub_T
abbrev rfr_Md_fill : Room := { frames := 1, cells := 0, slots := 0, locals := 21 }
theorem rfm_Md_fill : Cond.code rfy_Md_fill rfb_Md_fill 3 none ∈ ub_T := ubw_589
abbrev rfb_Md_latest : ByteArray := prog_6_method_24_code
abbrev rfy_Md_latest : MethodName := ⟨"UpdateRobotModel", "latest", "(II)I"⟩
abbrev rfs_Md_latest : List Cond := .code rfy_Md_latest rfb_Md_latest 5 (some .int) :: ub_T
abbrev rfr_Md_latest : Room := { frames := 0, cells := 0, slots := 0, locals := 0 }
theorem rfm_Md_latest : Cond.code rfy_Md_latest rfb_Md_latest 5 (some .int) ∈ ub_T := ubw_569
abbrev rfb_Md_opens : ByteArray := prog_6_method_25_code
abbrev rfy_Md_opens : MethodName := ⟨"UpdateRobotModel", "opens", "(I)I"⟩
abbrev rfs_Md_opens : List Cond := .code rfy_Md_opens rfb_Md_opens 4 (some .int) :: ub_T
abbrev rfr_Md_opens : Room := { frames := 0, cells := 0, slots := 0, locals := 0 }
theorem rfm_Md_opens : Cond.code rfy_Md_opens rfb_Md_opens 4 (some .int) ∈ ub_T := ubw_585
abbrev rfb_Md_isDue : ByteArray := prog_6_method_26_code
abbrev rfy_Md_isDue : MethodName := ⟨"UpdateRobotModel", "isDue", "(I)Z"⟩
abbrev rfs_Md_isDue : List Cond := .code rfy_Md_isDue rfb_Md_isDue 5 (some .boolean) :: ub_T
abbrev rfr_Md_isDue : Room := { frames := 1, cells := 0, slots := 0, locals := 22 }
theorem rfm_Md_isDue : Cond.code rfy_Md_isDue rfb_Md_isDue 5 (some .boolean) ∈ ub_T := ubw_561
abbrev rfb_Md_isUnitHit : ByteArray := prog_6_method_27_code
abbrev rfy_Md_isUnitHit : MethodName := ⟨"UpdateRobotModel", "isUnitHit", "(I)Z"⟩
abbrev rfs_Md_isUnitHit : List Cond := .code rfy_Md_isUnitHit rfb_Md_isUnitHit 4 (some .boolean) :: ub_T
abbrev rfr_Md_isUnitHit : Room := { frames := 1, cells := 0, slots := 0, locals := 22 }
theorem rfm_Md_isUnitHit : Cond.code rfy_Md_isUnitHit rfb_Md_isUnitHit 4 (some .boolean) ∈ ub_T := ubw_581
abbrev rfb_Md_propose : ByteArray := prog_6_method_28_code
abbrev rfy_Md_propose : MethodName := ⟨"UpdateRobotModel", "propose", "(I)I"⟩
abbrev rfs_Md_propose : List Cond := .code rfy_Md_propose rfb_Md_propose 6 (some .int) :: ub_T
abbrev rfr_Md_propose : Room := { frames := 3, cells := 0, slots := 0, locals := 69 }
theorem rfm_Md_propose : Cond.code rfy_Md_propose rfb_Md_propose 6 (some .int) ∈ ub_T := ubw_565
abbrev rfb_Md_run : ByteArray := prog_6_method_29_code
abbrev rfy_Md_run : MethodName := ⟨"UpdateRobotModel", "run", "()I"⟩
abbrev rfs_Md_run : List Cond := .code rfy_Md_run rfb_Md_run 4 (some .int) :: ub_T
abbrev rfr_Md_run : Room := { frames := 4, cells := 0, slots := 0, locals := 94 }
theorem rfm_Md_run : Cond.code rfy_Md_run rfb_Md_run 4 (some .int) ∈ ub_T := ubw_557
abbrev rfb_Md_waiting : ByteArray := prog_6_method_30_code
abbrev rfy_Md_waiting : MethodName := ⟨"UpdateRobotModel", "waiting", "()I"⟩
abbrev rfs_Md_waiting : List Cond := .code rfy_Md_waiting rfb_Md_waiting 1 (some .int) :: ub_T
abbrev rfr_Md_waiting : Room := { frames := 0, cells := 0, slots := 0, locals := 0 }
theorem rfm_Md_waiting : Cond.code rfy_Md_waiting rfb_Md_waiting 1 (some .int) ∈ ub_T := ubw_593
abbrev rfb_Md_about : ByteArray := prog_6_method_31_code
abbrev rfy_Md_about : MethodName := ⟨"UpdateRobotModel", "about", "(II)I"⟩
abbrev rfs_Md_about : List Cond := .code rfy_Md_about rfb_Md_about 3 (some .int) :: ub_T
abbrev rfr_Md_about : Room := { frames := 0, cells := 0, slots := 0, locals := 0 }
theorem rfm_Md_about : Cond.code rfy_Md_about rfb_Md_about 3 (some .int) ∈ ub_T := ubw_597
abbrev rfb_Md_target : ByteArray := prog_6_method_32_code
abbrev rfy_Md_target : MethodName := ⟨"UpdateRobotModel", "target", "(II)I"⟩
abbrev rfs_Md_target : List Cond := .code rfy_Md_target rfb_Md_target 3 (some .int) :: ub_T
abbrev rfr_Md_target : Room := { frames := 1, cells := 0, slots := 0, locals := 21 }
theorem rfm_Md_target : Cond.code rfy_Md_target rfb_Md_target 3 (some .int) ∈ ub_T := ubw_601
abbrev rfb_Md_redo : ByteArray := prog_6_method_33_code
abbrev rfy_Md_redo : MethodName := ⟨"UpdateRobotModel", "redo", "(I)V"⟩
abbrev rfs_Md_redo : List Cond := .code rfy_Md_redo rfb_Md_redo 3 none :: ub_T
abbrev rfr_Md_redo : Room := { frames := 3, cells := 0, slots := 0, locals := 69 }
theorem rfm_Md_redo : Cond.code rfy_Md_redo rfb_Md_redo 3 none ∈ ub_T := ubw_609
abbrev rfb_Md_pass : ByteArray := prog_6_method_34_code
abbrev rfy_Md_pass : MethodName := ⟨"UpdateRobotModel", "pass", "(IZ)I"⟩
abbrev rfs_Md_pass : List Cond := .code rfy_Md_pass rfb_Md_pass 8 (some .int) :: ub_T
abbrev rfr_Md_pass : Room := { frames := 4, cells := 0, slots := 0, locals := 91 }
theorem rfm_Md_pass : Cond.code rfy_Md_pass rfb_Md_pass 8 (some .int) ∈ ub_T := ubw_605
abbrev rfb_Md_open : ByteArray := prog_6_method_35_code
abbrev rfy_Md_open : MethodName := ⟨"UpdateRobotModel", "open", "(I)I"⟩
abbrev rfs_Md_open : List Cond := .code rfy_Md_open rfb_Md_open 2 (some .int) :: ub_T
abbrev rfr_Md_open : Room := { frames := 1, cells := 0, slots := 0, locals := 23 }
theorem rfm_Md_open : Cond.code rfy_Md_open rfb_Md_open 2 (some .int) ∈ ub_T := ubw_613
end
section
theorem dur_Rb_isRepository_0 : decode urb_Rb_isRepository 0 = .ok (.iload_n 0, 1) := by decide +kernel
theorem dur_Rb_isRepository_1 : decode urb_Rb_isRepository 1 = .ok (.ifCond .lt 12, 3) := by decide +kernel
theorem dur_Rb_isRepository_4 : decode urb_Rb_isRepository 4 = .ok (.iload_n 0, 1) := by decide +kernel
theorem dur_Rb_isRepository_5 : decode urb_Rb_isRepository 5 = .ok (.iconst 3, 1) := by decide +kernel
theorem dur_Rb_isRepository_6 : decode urb_Rb_isRepository 6 = .ok (.if_icmp .ge 7, 3) := by decide +kernel
theorem dur_Rb_isRepository_9 : decode urb_Rb_isRepository 9 = .ok (.iconst 1, 1) := by decide +kernel
theorem dur_Rb_isRepository_10 : decode urb_Rb_isRepository 10 = .ok (.goto 4, 3) := by decide +kernel
theorem dur_Rb_isRepository_13 : decode urb_Rb_isRepository 13 = .ok (.iconst 0, 1) := by decide +kernel
theorem dur_Rb_isRepository_14 : decode urb_Rb_isRepository 14 = .ok (.ireturn, 1) := by decide +kernel
theorem dur_Nm_add_0 : decode urb_Nm_add 0 = .ok (.aload_n 0, 1) := by decide +kernel
theorem dur_Nm_add_1 : decode urb_Nm_add 1 = .ok (.getfield 9, 3) := by decide +kernel
theorem dur_Nm_add_4 : decode urb_Nm_add 4 = .ok (.bipush 12, 2) := by decide +kernel
theorem dur_Nm_add_6 : decode urb_Nm_add 6 = .ok (.if_icmp .lt 5, 3) := by decide +kernel
theorem dur_Nm_add_9 : decode urb_Nm_add 9 = .ok (.iconst (-1), 1) := by decide +kernel
theorem dur_Nm_add_10 : decode urb_Nm_add 10 = .ok (.ireturn, 1) := by decide +kernel
theorem dur_Nm_add_11 : decode urb_Nm_add 11 = .ok (.aload_n 0, 1) := by decide +kernel
theorem dur_Nm_add_12 : decode urb_Nm_add 12 = .ok (.getfield 9, 3) := by decide +kernel
theorem dur_Nm_add_15 : decode urb_Nm_add 15 = .ok (.istore_n 2, 1) := by decide +kernel
theorem dur_Nm_add_16 : decode urb_Nm_add 16 = .ok (.aload_n 0, 1) := by decide +kernel
theorem dur_Nm_add_17 : decode urb_Nm_add 17 = .ok (.dup, 1) := by decide +kernel
theorem dur_Nm_add_18 : decode urb_Nm_add 18 = .ok (.getfield 9, 3) := by decide +kernel
theorem dur_Nm_add_21 : decode urb_Nm_add 21 = .ok (.iconst 1, 1) := by decide +kernel
theorem dur_Nm_add_22 : decode urb_Nm_add 22 = .ok (.iadd, 1) := by decide +kernel
theorem dur_Nm_add_23 : decode urb_Nm_add 23 = .ok (.putfield 9, 3) := by decide +kernel
theorem dur_Nm_add_26 : decode urb_Nm_add 26 = .ok (.aload_n 0, 1) := by decide +kernel
theorem dur_Nm_add_27 : decode urb_Nm_add 27 = .ok (.getfield 15, 3) := by decide +kernel
theorem dur_Nm_add_30 : decode urb_Nm_add 30 = .ok (.iload_n 2, 1) := by decide +kernel
theorem dur_Nm_add_31 : decode urb_Nm_add 31 = .ok (.iload_n 1, 1) := by decide +kernel
theorem dur_Nm_add_32 : decode urb_Nm_add 32 = .ok (.iastore, 1) := by decide +kernel
theorem dur_Nm_add_33 : decode urb_Nm_add 33 = .ok (.aload_n 0, 1) := by decide +kernel
theorem dur_Nm_add_34 : decode urb_Nm_add 34 = .ok (.getfield 19, 3) := by decide +kernel
theorem dur_Nm_add_37 : decode urb_Nm_add 37 = .ok (.iload_n 2, 1) := by decide +kernel
theorem dur_Nm_add_38 : decode urb_Nm_add 38 = .ok (.iconst 1, 1) := by decide +kernel
theorem dur_Nm_add_39 : decode urb_Nm_add 39 = .ok (.iastore, 1) := by decide +kernel
theorem dur_Nm_add_40 : decode urb_Nm_add 40 = .ok (.aload_n 0, 1) := by decide +kernel
theorem dur_Nm_add_41 : decode urb_Nm_add 41 = .ok (.getfield 22, 3) := by decide +kernel
theorem dur_Nm_add_44 : decode urb_Nm_add 44 = .ok (.iload_n 2, 1) := by decide +kernel
theorem dur_Nm_add_45 : decode urb_Nm_add 45 = .ok (.iconst 0, 1) := by decide +kernel
theorem dur_Nm_add_46 : decode urb_Nm_add 46 = .ok (.iastore, 1) := by decide +kernel
theorem dur_Nm_add_47 : decode urb_Nm_add 47 = .ok (.aload_n 0, 1) := by decide +kernel
theorem dur_Nm_add_48 : decode urb_Nm_add 48 = .ok (.getfield 25, 3) := by decide +kernel
theorem dur_Nm_add_51 : decode urb_Nm_add 51 = .ok (.iload_n 2, 1) := by decide +kernel
theorem dur_Nm_add_52 : decode urb_Nm_add 52 = .ok (.iconst 2, 1) := by decide +kernel
theorem dur_Nm_add_53 : decode urb_Nm_add 53 = .ok (.iastore, 1) := by decide +kernel
theorem dur_Nm_add_54 : decode urb_Nm_add 54 = .ok (.aload_n 0, 1) := by decide +kernel
theorem dur_Nm_add_55 : decode urb_Nm_add 55 = .ok (.getfield 28, 3) := by decide +kernel
theorem dur_Nm_add_58 : decode urb_Nm_add 58 = .ok (.iload_n 2, 1) := by decide +kernel
theorem dur_Nm_add_59 : decode urb_Nm_add 59 = .ok (.iconst 1, 1) := by decide +kernel
theorem dur_Nm_add_60 : decode urb_Nm_add 60 = .ok (.iastore, 1) := by decide +kernel
theorem dur_Nm_add_61 : decode urb_Nm_add 61 = .ok (.aload_n 0, 1) := by decide +kernel
theorem dur_Nm_add_62 : decode urb_Nm_add 62 = .ok (.getfield 31, 3) := by decide +kernel
theorem dur_Nm_add_65 : decode urb_Nm_add 65 = .ok (.iload_n 2, 1) := by decide +kernel
theorem dur_Nm_add_66 : decode urb_Nm_add 66 = .ok (.iconst (-1), 1) := by decide +kernel
theorem dur_Nm_add_67 : decode urb_Nm_add 67 = .ok (.iastore, 1) := by decide +kernel
theorem dur_Nm_add_68 : decode urb_Nm_add 68 = .ok (.aload_n 0, 1) := by decide +kernel
theorem dur_Nm_add_69 : decode urb_Nm_add 69 = .ok (.getfield 34, 3) := by decide +kernel
theorem dur_Nm_add_72 : decode urb_Nm_add 72 = .ok (.iload_n 2, 1) := by decide +kernel
theorem dur_Nm_add_73 : decode urb_Nm_add 73 = .ok (.iconst (-1), 1) := by decide +kernel
theorem dur_Nm_add_74 : decode urb_Nm_add 74 = .ok (.iastore, 1) := by decide +kernel
theorem dur_Nm_add_75 : decode urb_Nm_add 75 = .ok (.aload_n 0, 1) := by decide +kernel
theorem dur_Nm_add_76 : decode urb_Nm_add 76 = .ok (.getfield 37, 3) := by decide +kernel
theorem dur_Nm_add_79 : decode urb_Nm_add 79 = .ok (.iload_n 2, 1) := by decide +kernel
theorem dur_Nm_add_80 : decode urb_Nm_add 80 = .ok (.iconst (-1), 1) := by decide +kernel
theorem dur_Nm_add_81 : decode urb_Nm_add 81 = .ok (.iastore, 1) := by decide +kernel
theorem dur_Nm_add_82 : decode urb_Nm_add 82 = .ok (.aload_n 0, 1) := by decide +kernel
theorem dur_Nm_add_83 : decode urb_Nm_add 83 = .ok (.getfield 45, 3) := by decide +kernel
theorem dur_Nm_add_86 : decode urb_Nm_add 86 = .ok (.iload_n 2, 1) := by decide +kernel
theorem dur_Nm_add_87 : decode urb_Nm_add 87 = .ok (.aaload, 1) := by decide +kernel
theorem dur_Nm_add_88 : decode urb_Nm_add 88 = .ok (.iconst 0, 1) := by decide +kernel
theorem dur_Nm_add_89 : decode urb_Nm_add 89 = .ok (.iconst (-1), 1) := by decide +kernel
theorem dur_Nm_add_90 : decode urb_Nm_add 90 = .ok (.iastore, 1) := by decide +kernel
theorem dur_Nm_add_91 : decode urb_Nm_add 91 = .ok (.iload_n 2, 1) := by decide +kernel
theorem dur_Nm_add_92 : decode urb_Nm_add 92 = .ok (.ireturn, 1) := by decide +kernel
theorem dur_Rb_name_0 : decode urb_Rb_name 0 = .ok (.iload_n 1, 1) := by decide +kernel
theorem dur_Rb_name_1 : decode urb_Rb_name 1 = .ok (.invokestatic 49, 3) := by decide +kernel
theorem dur_Rb_name_4 : decode urb_Rb_name 4 = .ok (.ifCond .ne 5, 3) := by decide +kernel
theorem dur_Rb_name_7 : decode urb_Rb_name 7 = .ok (.iconst (-1), 1) := by decide +kernel
theorem dur_Rb_name_8 : decode urb_Rb_name 8 = .ok (.ireturn, 1) := by decide +kernel
theorem dur_Rb_name_9 : decode urb_Rb_name 9 = .ok (.aload_n 0, 1) := by decide +kernel
theorem dur_Rb_name_10 : decode urb_Rb_name 10 = .ok (.getfield 25, 3) := by decide +kernel
theorem dur_Rb_name_13 : decode urb_Rb_name 13 = .ok (.iload_n 1, 1) := by decide +kernel
theorem dur_Rb_name_14 : decode urb_Rb_name 14 = .ok (.invokevirtual 53, 3) := by decide +kernel
theorem dur_Rb_name_17 : decode urb_Rb_name 17 = .ok (.ireturn, 1) := by decide +kernel
theorem dur_Nm_isKnown_0 : decode urb_Nm_isKnown 0 = .ok (.iload_n 1, 1) := by decide +kernel
theorem dur_Nm_isKnown_1 : decode urb_Nm_isKnown 1 = .ok (.ifCond .lt 15, 3) := by decide +kernel
theorem dur_Nm_isKnown_4 : decode urb_Nm_isKnown 4 = .ok (.iload_n 1, 1) := by decide +kernel
theorem dur_Nm_isKnown_5 : decode urb_Nm_isKnown 5 = .ok (.aload_n 0, 1) := by decide +kernel
theorem dur_Nm_isKnown_6 : decode urb_Nm_isKnown 6 = .ok (.getfield 9, 3) := by decide +kernel
theorem dur_Nm_isKnown_9 : decode urb_Nm_isKnown 9 = .ok (.if_icmp .ge 7, 3) := by decide +kernel
theorem dur_Nm_isKnown_12 : decode urb_Nm_isKnown 12 = .ok (.iconst 1, 1) := by decide +kernel
theorem dur_Nm_isKnown_13 : decode urb_Nm_isKnown 13 = .ok (.goto 4, 3) := by decide +kernel
theorem dur_Nm_isKnown_16 : decode urb_Nm_isKnown 16 = .ok (.iconst 0, 1) := by decide +kernel
theorem dur_Nm_isKnown_17 : decode urb_Nm_isKnown 17 = .ok (.ireturn, 1) := by decide +kernel
theorem dur_Nm_addVersion_0 : decode urb_Nm_addVersion 0 = .ok (.aload_n 0, 1) := by decide +kernel
theorem dur_Nm_addVersion_1 : decode urb_Nm_addVersion 1 = .ok (.getfield 19, 3) := by decide +kernel
theorem dur_Nm_addVersion_4 : decode urb_Nm_addVersion 4 = .ok (.iload_n 1, 1) := by decide +kernel
theorem dur_Nm_addVersion_5 : decode urb_Nm_addVersion 5 = .ok (.iaload, 1) := by decide +kernel
theorem dur_Nm_addVersion_6 : decode urb_Nm_addVersion 6 = .ok (.istore_n 3, 1) := by decide +kernel
theorem dur_Nm_addVersion_7 : decode urb_Nm_addVersion 7 = .ok (.iload_n 3, 1) := by decide +kernel
theorem dur_Nm_addVersion_8 : decode urb_Nm_addVersion 8 = .ok (.bipush 8, 2) := by decide +kernel
theorem dur_Nm_addVersion_10 : decode urb_Nm_addVersion 10 = .ok (.if_icmp .lt 5, 3) := by decide +kernel
theorem dur_Nm_addVersion_13 : decode urb_Nm_addVersion 13 = .ok (.iconst (-1), 1) := by decide +kernel
theorem dur_Nm_addVersion_14 : decode urb_Nm_addVersion 14 = .ok (.ireturn, 1) := by decide +kernel
theorem dur_Nm_addVersion_15 : decode urb_Nm_addVersion 15 = .ok (.aload_n 0, 1) := by decide +kernel
theorem dur_Nm_addVersion_16 : decode urb_Nm_addVersion 16 = .ok (.getfield 19, 3) := by decide +kernel
theorem dur_Nm_addVersion_19 : decode urb_Nm_addVersion 19 = .ok (.iload_n 1, 1) := by decide +kernel
theorem dur_Nm_addVersion_20 : decode urb_Nm_addVersion 20 = .ok (.dup2, 1) := by decide +kernel
theorem dur_Nm_addVersion_21 : decode urb_Nm_addVersion 21 = .ok (.iaload, 1) := by decide +kernel
theorem dur_Nm_addVersion_22 : decode urb_Nm_addVersion 22 = .ok (.iconst 1, 1) := by decide +kernel
theorem dur_Nm_addVersion_23 : decode urb_Nm_addVersion 23 = .ok (.iadd, 1) := by decide +kernel
theorem dur_Nm_addVersion_24 : decode urb_Nm_addVersion 24 = .ok (.iastore, 1) := by decide +kernel
theorem dur_Nm_addVersion_25 : decode urb_Nm_addVersion 25 = .ok (.aload_n 0, 1) := by decide +kernel
theorem dur_Nm_addVersion_26 : decode urb_Nm_addVersion 26 = .ok (.getfield 42, 3) := by decide +kernel
theorem dur_Nm_addVersion_29 : decode urb_Nm_addVersion 29 = .ok (.iload_n 1, 1) := by decide +kernel
theorem dur_Nm_addVersion_30 : decode urb_Nm_addVersion 30 = .ok (.aaload, 1) := by decide +kernel
theorem dur_Nm_addVersion_31 : decode urb_Nm_addVersion 31 = .ok (.iload_n 3, 1) := by decide +kernel
theorem dur_Nm_addVersion_32 : decode urb_Nm_addVersion 32 = .ok (.iload_n 2, 1) := by decide +kernel
theorem dur_Nm_addVersion_33 : decode urb_Nm_addVersion 33 = .ok (.iastore, 1) := by decide +kernel
theorem dur_Nm_addVersion_34 : decode urb_Nm_addVersion 34 = .ok (.aload_n 0, 1) := by decide +kernel
theorem dur_Nm_addVersion_35 : decode urb_Nm_addVersion 35 = .ok (.getfield 45, 3) := by decide +kernel
theorem dur_Nm_addVersion_38 : decode urb_Nm_addVersion 38 = .ok (.iload_n 1, 1) := by decide +kernel
theorem dur_Nm_addVersion_39 : decode urb_Nm_addVersion 39 = .ok (.aaload, 1) := by decide +kernel
theorem dur_Nm_addVersion_40 : decode urb_Nm_addVersion 40 = .ok (.iload_n 3, 1) := by decide +kernel
theorem dur_Nm_addVersion_41 : decode urb_Nm_addVersion 41 = .ok (.iconst (-1), 1) := by decide +kernel
theorem dur_Nm_addVersion_42 : decode urb_Nm_addVersion 42 = .ok (.iastore, 1) := by decide +kernel
theorem dur_Nm_addVersion_43 : decode urb_Nm_addVersion 43 = .ok (.iload_n 3, 1) := by decide +kernel
theorem dur_Nm_addVersion_44 : decode urb_Nm_addVersion 44 = .ok (.ireturn, 1) := by decide +kernel
theorem dur_Rb_newer_0 : decode urb_Rb_newer 0 = .ok (.aload_n 0, 1) := by decide +kernel
theorem dur_Rb_newer_1 : decode urb_Rb_newer 1 = .ok (.getfield 25, 3) := by decide +kernel
theorem dur_Rb_newer_4 : decode urb_Rb_newer 4 = .ok (.iload_n 1, 1) := by decide +kernel
theorem dur_Rb_newer_5 : decode urb_Rb_newer 5 = .ok (.invokevirtual 57, 3) := by decide +kernel
theorem dur_Rb_newer_8 : decode urb_Rb_newer 8 = .ok (.ifCond .eq 12, 3) := by decide +kernel
theorem dur_Rb_newer_11 : decode urb_Rb_newer 11 = .ok (.iload_n 2, 1) := by decide +kernel
theorem dur_Rb_newer_12 : decode urb_Rb_newer 12 = .ok (.ifCond .lt 8, 3) := by decide +kernel
theorem dur_Rb_newer_15 : decode urb_Rb_newer 15 = .ok (.iload_n 2, 1) := by decide +kernel
theorem dur_Rb_newer_16 : decode urb_Rb_newer 16 = .ok (.iconst 3, 1) := by decide +kernel
theorem dur_Rb_newer_17 : decode urb_Rb_newer 17 = .ok (.if_icmp .lt 5, 3) := by decide +kernel
theorem dur_Rb_newer_20 : decode urb_Rb_newer 20 = .ok (.iconst (-1), 1) := by decide +kernel
theorem dur_Rb_newer_21 : decode urb_Rb_newer 21 = .ok (.ireturn, 1) := by decide +kernel
theorem dur_Rb_newer_22 : decode urb_Rb_newer 22 = .ok (.aload_n 0, 1) := by decide +kernel
theorem dur_Rb_newer_23 : decode urb_Rb_newer 23 = .ok (.getfield 25, 3) := by decide +kernel
theorem dur_Rb_newer_26 : decode urb_Rb_newer 26 = .ok (.iload_n 1, 1) := by decide +kernel
theorem dur_Rb_newer_27 : decode urb_Rb_newer 27 = .ok (.iload_n 2, 1) := by decide +kernel
theorem dur_Rb_newer_28 : decode urb_Rb_newer 28 = .ok (.invokevirtual 60, 3) := by decide +kernel
theorem dur_Rb_newer_31 : decode urb_Rb_newer 31 = .ok (.ireturn, 1) := by decide +kernel
theorem dur_Nm_hasVersion_0 : decode urb_Nm_hasVersion 0 = .ok (.aload_n 0, 1) := by decide +kernel
theorem dur_Nm_hasVersion_1 : decode urb_Nm_hasVersion 1 = .ok (.iload_n 1, 1) := by decide +kernel
theorem dur_Nm_hasVersion_2 : decode urb_Nm_hasVersion 2 = .ok (.invokevirtual 51, 3) := by decide +kernel
theorem dur_Nm_hasVersion_5 : decode urb_Nm_hasVersion 5 = .ok (.ifCond .eq 21, 3) := by decide +kernel
theorem dur_Nm_hasVersion_8 : decode urb_Nm_hasVersion 8 = .ok (.iload_n 2, 1) := by decide +kernel
theorem dur_Nm_hasVersion_9 : decode urb_Nm_hasVersion 9 = .ok (.ifCond .lt 17, 3) := by decide +kernel
theorem dur_Nm_hasVersion_12 : decode urb_Nm_hasVersion 12 = .ok (.iload_n 2, 1) := by decide +kernel
theorem dur_Nm_hasVersion_13 : decode urb_Nm_hasVersion 13 = .ok (.aload_n 0, 1) := by decide +kernel
theorem dur_Nm_hasVersion_14 : decode urb_Nm_hasVersion 14 = .ok (.getfield 19, 3) := by decide +kernel
theorem dur_Nm_hasVersion_17 : decode urb_Nm_hasVersion 17 = .ok (.iload_n 1, 1) := by decide +kernel
theorem dur_Nm_hasVersion_18 : decode urb_Nm_hasVersion 18 = .ok (.iaload, 1) := by decide +kernel
theorem dur_Nm_hasVersion_19 : decode urb_Nm_hasVersion 19 = .ok (.if_icmp .ge 7, 3) := by decide +kernel
theorem dur_Nm_hasVersion_22 : decode urb_Nm_hasVersion 22 = .ok (.iconst 1, 1) := by decide +kernel
theorem dur_Nm_hasVersion_23 : decode urb_Nm_hasVersion 23 = .ok (.goto 4, 3) := by decide +kernel
theorem dur_Nm_hasVersion_26 : decode urb_Nm_hasVersion 26 = .ok (.iconst 0, 1) := by decide +kernel
theorem dur_Nm_hasVersion_27 : decode urb_Nm_hasVersion 27 = .ok (.ireturn, 1) := by decide +kernel
theorem dur_Rb_needs_0 : decode urb_Rb_needs 0 = .ok (.aload_n 0, 1) := by decide +kernel
theorem dur_Rb_needs_1 : decode urb_Rb_needs 1 = .ok (.getfield 25, 3) := by decide +kernel
theorem dur_Rb_needs_4 : decode urb_Rb_needs 4 = .ok (.iload_n 1, 1) := by decide +kernel
theorem dur_Rb_needs_5 : decode urb_Rb_needs 5 = .ok (.iload_n 2, 1) := by decide +kernel
theorem dur_Rb_needs_6 : decode urb_Rb_needs 6 = .ok (.invokevirtual 63, 3) := by decide +kernel
theorem dur_Rb_needs_9 : decode urb_Rb_needs 9 = .ok (.ifCond .eq 19, 3) := by decide +kernel
theorem dur_Rb_needs_12 : decode urb_Rb_needs 12 = .ok (.aload_n 0, 1) := by decide +kernel
theorem dur_Rb_needs_13 : decode urb_Rb_needs 13 = .ok (.getfield 25, 3) := by decide +kernel
theorem dur_Rb_needs_16 : decode urb_Rb_needs 16 = .ok (.iload_n 3, 1) := by decide +kernel
theorem dur_Rb_needs_17 : decode urb_Rb_needs 17 = .ok (.invokevirtual 57, 3) := by decide +kernel
theorem dur_Rb_needs_20 : decode urb_Rb_needs 20 = .ok (.ifCond .eq 8, 3) := by decide +kernel
theorem dur_Rb_needs_23 : decode urb_Rb_needs 23 = .ok (.iload_n 1, 1) := by decide +kernel
theorem dur_Rb_needs_24 : decode urb_Rb_needs 24 = .ok (.iload_n 3, 1) := by decide +kernel
theorem dur_Rb_needs_25 : decode urb_Rb_needs 25 = .ok (.if_icmp .ne 5, 3) := by decide +kernel
theorem dur_Rb_needs_28 : decode urb_Rb_needs 28 = .ok (.iconst 0, 1) := by decide +kernel
theorem dur_Rb_needs_29 : decode urb_Rb_needs 29 = .ok (.ireturn, 1) := by decide +kernel
theorem dur_Rb_needs_30 : decode urb_Rb_needs 30 = .ok (.iload 4, 2) := by decide +kernel
theorem dur_Rb_needs_32 : decode urb_Rb_needs 32 = .ok (.ifCond .lt 10, 3) := by decide +kernel
theorem dur_Rb_needs_35 : decode urb_Rb_needs 35 = .ok (.iload 4, 2) := by decide +kernel
theorem dur_Rb_needs_37 : decode urb_Rb_needs 37 = .ok (.bipush 8, 2) := by decide +kernel
theorem dur_Rb_needs_39 : decode urb_Rb_needs 39 = .ok (.if_icmp .lt 5, 3) := by decide +kernel
theorem dur_Rb_needs_42 : decode urb_Rb_needs 42 = .ok (.iconst 0, 1) := by decide +kernel
theorem dur_Rb_needs_43 : decode urb_Rb_needs 43 = .ok (.ireturn, 1) := by decide +kernel
theorem dur_Rb_needs_44 : decode urb_Rb_needs 44 = .ok (.aload_n 0, 1) := by decide +kernel
theorem dur_Rb_needs_45 : decode urb_Rb_needs 45 = .ok (.getfield 25, 3) := by decide +kernel
theorem dur_Rb_needs_48 : decode urb_Rb_needs 48 = .ok (.getfield 67, 3) := by decide +kernel
theorem dur_Rb_needs_51 : decode urb_Rb_needs 51 = .ok (.iload_n 1, 1) := by decide +kernel
theorem dur_Rb_needs_52 : decode urb_Rb_needs 52 = .ok (.aaload, 1) := by decide +kernel
theorem dur_Rb_needs_53 : decode urb_Rb_needs 53 = .ok (.iload_n 2, 1) := by decide +kernel
theorem dur_Rb_needs_54 : decode urb_Rb_needs 54 = .ok (.iload_n 3, 1) := by decide +kernel
theorem dur_Rb_needs_55 : decode urb_Rb_needs 55 = .ok (.iastore, 1) := by decide +kernel
theorem dur_Rb_needs_56 : decode urb_Rb_needs 56 = .ok (.aload_n 0, 1) := by decide +kernel
theorem dur_Rb_needs_57 : decode urb_Rb_needs 57 = .ok (.getfield 25, 3) := by decide +kernel
theorem dur_Rb_needs_60 : decode urb_Rb_needs 60 = .ok (.getfield 71, 3) := by decide +kernel
theorem dur_Rb_needs_63 : decode urb_Rb_needs 63 = .ok (.iload_n 1, 1) := by decide +kernel
theorem dur_Rb_needs_64 : decode urb_Rb_needs 64 = .ok (.aaload, 1) := by decide +kernel
theorem dur_Rb_needs_65 : decode urb_Rb_needs 65 = .ok (.iload_n 2, 1) := by decide +kernel
theorem dur_Rb_needs_66 : decode urb_Rb_needs 66 = .ok (.iload 4, 2) := by decide +kernel
theorem dur_Rb_needs_68 : decode urb_Rb_needs 68 = .ok (.iastore, 1) := by decide +kernel
theorem dur_Rb_needs_69 : decode urb_Rb_needs 69 = .ok (.iconst 1, 1) := by decide +kernel
theorem dur_Rb_needs_70 : decode urb_Rb_needs 70 = .ok (.ireturn, 1) := by decide +kernel
theorem dur_Rb_rule_0 : decode urb_Rb_rule 0 = .ok (.aload_n 0, 1) := by decide +kernel
theorem dur_Rb_rule_1 : decode urb_Rb_rule 1 = .ok (.getfield 25, 3) := by decide +kernel
theorem dur_Rb_rule_4 : decode urb_Rb_rule 4 = .ok (.iload_n 1, 1) := by decide +kernel
theorem dur_Rb_rule_5 : decode urb_Rb_rule 5 = .ok (.invokevirtual 57, 3) := by decide +kernel
theorem dur_Rb_rule_8 : decode urb_Rb_rule 8 = .ok (.ifCond .eq 13, 3) := by decide +kernel
theorem dur_Rb_rule_11 : decode urb_Rb_rule 11 = .ok (.iload_n 2, 1) := by decide +kernel
theorem dur_Rb_rule_12 : decode urb_Rb_rule 12 = .ok (.iconst (-1), 1) := by decide +kernel
theorem dur_Rb_rule_13 : decode urb_Rb_rule 13 = .ok (.if_icmp .lt 8, 3) := by decide +kernel
theorem dur_Rb_rule_16 : decode urb_Rb_rule 16 = .ok (.iload_n 2, 1) := by decide +kernel
theorem dur_Rb_rule_17 : decode urb_Rb_rule 17 = .ok (.iconst 3, 1) := by decide +kernel
theorem dur_Rb_rule_18 : decode urb_Rb_rule 18 = .ok (.if_icmp .lt 5, 3) := by decide +kernel
theorem dur_Rb_rule_21 : decode urb_Rb_rule 21 = .ok (.iconst 0, 1) := by decide +kernel
theorem dur_Rb_rule_22 : decode urb_Rb_rule 22 = .ok (.ireturn, 1) := by decide +kernel
theorem dur_Rb_rule_23 : decode urb_Rb_rule 23 = .ok (.iload_n 3, 1) := by decide +kernel
theorem dur_Rb_rule_24 : decode urb_Rb_rule 24 = .ok (.iconst 1, 1) := by decide +kernel
theorem dur_Rb_rule_25 : decode urb_Rb_rule 25 = .ok (.if_icmp .lt 22, 3) := by decide +kernel
theorem dur_Rb_rule_28 : decode urb_Rb_rule 28 = .ok (.iload_n 3, 1) := by decide +kernel
theorem dur_Rb_rule_29 : decode urb_Rb_rule 29 = .ok (.sipush 1000, 3) := by decide +kernel
theorem dur_Rb_rule_32 : decode urb_Rb_rule 32 = .ok (.if_icmp .gt 15, 3) := by decide +kernel
theorem dur_Rb_rule_35 : decode urb_Rb_rule 35 = .ok (.iload 4, 2) := by decide +kernel
theorem dur_Rb_rule_37 : decode urb_Rb_rule 37 = .ok (.iconst (-1), 1) := by decide +kernel
theorem dur_Rb_rule_38 : decode urb_Rb_rule 38 = .ok (.if_icmp .lt 9, 3) := by decide +kernel
theorem dur_Rb_rule_41 : decode urb_Rb_rule 41 = .ok (.iload 4, 2) := by decide +kernel
theorem dur_Rb_rule_43 : decode urb_Rb_rule 43 = .ok (.iconst 4, 1) := by decide +kernel
theorem dur_Rb_rule_44 : decode urb_Rb_rule 44 = .ok (.if_icmp .lt 5, 3) := by decide +kernel
theorem dur_Rb_rule_47 : decode urb_Rb_rule 47 = .ok (.iconst 0, 1) := by decide +kernel
theorem dur_Rb_rule_48 : decode urb_Rb_rule 48 = .ok (.ireturn, 1) := by decide +kernel
theorem dur_Rb_rule_49 : decode urb_Rb_rule 49 = .ok (.aload_n 0, 1) := by decide +kernel
theorem dur_Rb_rule_50 : decode urb_Rb_rule 50 = .ok (.getfield 25, 3) := by decide +kernel
theorem dur_Rb_rule_53 : decode urb_Rb_rule 53 = .ok (.getfield 74, 3) := by decide +kernel
theorem dur_Rb_rule_56 : decode urb_Rb_rule 56 = .ok (.iload_n 1, 1) := by decide +kernel
theorem dur_Rb_rule_57 : decode urb_Rb_rule 57 = .ok (.iload_n 2, 1) := by decide +kernel
theorem dur_Rb_rule_58 : decode urb_Rb_rule 58 = .ok (.iastore, 1) := by decide +kernel
theorem dur_Rb_rule_59 : decode urb_Rb_rule 59 = .ok (.aload_n 0, 1) := by decide +kernel
theorem dur_Rb_rule_60 : decode urb_Rb_rule 60 = .ok (.getfield 25, 3) := by decide +kernel
theorem dur_Rb_rule_63 : decode urb_Rb_rule 63 = .ok (.getfield 78, 3) := by decide +kernel
theorem dur_Rb_rule_66 : decode urb_Rb_rule 66 = .ok (.iload_n 1, 1) := by decide +kernel
theorem dur_Rb_rule_67 : decode urb_Rb_rule 67 = .ok (.iload_n 3, 1) := by decide +kernel
theorem dur_Rb_rule_68 : decode urb_Rb_rule 68 = .ok (.iastore, 1) := by decide +kernel
theorem dur_Rb_rule_69 : decode urb_Rb_rule 69 = .ok (.aload_n 0, 1) := by decide +kernel
theorem dur_Rb_rule_70 : decode urb_Rb_rule 70 = .ok (.getfield 25, 3) := by decide +kernel
theorem dur_Rb_rule_73 : decode urb_Rb_rule 73 = .ok (.getfield 81, 3) := by decide +kernel
theorem dur_Rb_rule_76 : decode urb_Rb_rule 76 = .ok (.iload_n 1, 1) := by decide +kernel
theorem dur_Rb_rule_77 : decode urb_Rb_rule 77 = .ok (.iload 4, 2) := by decide +kernel
theorem dur_Rb_rule_79 : decode urb_Rb_rule 79 = .ok (.iastore, 1) := by decide +kernel
theorem dur_Rb_rule_80 : decode urb_Rb_rule 80 = .ok (.iconst 1, 1) := by decide +kernel
theorem dur_Rb_rule_81 : decode urb_Rb_rule 81 = .ok (.ireturn, 1) := by decide +kernel
theorem dur_Rb_advise_0 : decode urb_Rb_advise 0 = .ok (.aload_n 0, 1) := by decide +kernel
theorem dur_Rb_advise_1 : decode urb_Rb_advise 1 = .ok (.getfield 25, 3) := by decide +kernel
theorem dur_Rb_advise_4 : decode urb_Rb_advise 4 = .ok (.iload_n 1, 1) := by decide +kernel
theorem dur_Rb_advise_5 : decode urb_Rb_advise 5 = .ok (.invokevirtual 57, 3) := by decide +kernel
theorem dur_Rb_advise_8 : decode urb_Rb_advise 8 = .ok (.ifCond .ne 5, 3) := by decide +kernel
theorem dur_Rb_advise_11 : decode urb_Rb_advise 11 = .ok (.iconst 0, 1) := by decide +kernel
theorem dur_Rb_advise_12 : decode urb_Rb_advise 12 = .ok (.ireturn, 1) := by decide +kernel
theorem dur_Rb_advise_13 : decode urb_Rb_advise 13 = .ok (.iload_n 2, 1) := by decide +kernel
theorem dur_Rb_advise_14 : decode urb_Rb_advise 14 = .ok (.iconst (-1), 1) := by decide +kernel
theorem dur_Rb_advise_15 : decode urb_Rb_advise 15 = .ok (.if_icmp .eq 17, 3) := by decide +kernel
theorem dur_Rb_advise_18 : decode urb_Rb_advise 18 = .ok (.aload_n 0, 1) := by decide +kernel
theorem dur_Rb_advise_19 : decode urb_Rb_advise 19 = .ok (.getfield 25, 3) := by decide +kernel
theorem dur_Rb_advise_22 : decode urb_Rb_advise 22 = .ok (.iload_n 1, 1) := by decide +kernel
theorem dur_Rb_advise_23 : decode urb_Rb_advise 23 = .ok (.iload_n 2, 1) := by decide +kernel
theorem dur_Rb_advise_24 : decode urb_Rb_advise 24 = .ok (.invokevirtual 63, 3) := by decide +kernel
theorem dur_Rb_advise_27 : decode urb_Rb_advise 27 = .ok (.ifCond .ne 5, 3) := by decide +kernel
theorem dur_Rb_advise_30 : decode urb_Rb_advise 30 = .ok (.iconst 0, 1) := by decide +kernel
theorem dur_Rb_advise_31 : decode urb_Rb_advise 31 = .ok (.ireturn, 1) := by decide +kernel
theorem dur_Rb_advise_32 : decode urb_Rb_advise 32 = .ok (.aload_n 0, 1) := by decide +kernel
theorem dur_Rb_advise_33 : decode urb_Rb_advise 33 = .ok (.getfield 25, 3) := by decide +kernel
theorem dur_Rb_advise_36 : decode urb_Rb_advise 36 = .ok (.getfield 84, 3) := by decide +kernel
theorem dur_Rb_advise_39 : decode urb_Rb_advise 39 = .ok (.iload_n 1, 1) := by decide +kernel
theorem dur_Rb_advise_40 : decode urb_Rb_advise 40 = .ok (.iload_n 2, 1) := by decide +kernel
theorem dur_Rb_advise_41 : decode urb_Rb_advise 41 = .ok (.iastore, 1) := by decide +kernel
theorem dur_Rb_advise_42 : decode urb_Rb_advise 42 = .ok (.iconst 1, 1) := by decide +kernel
theorem dur_Rb_advise_43 : decode urb_Rb_advise 43 = .ok (.ireturn, 1) := by decide +kernel
theorem dur_Rb_has_0 : decode urb_Rb_has 0 = .ok (.aload_n 0, 1) := by decide +kernel
theorem dur_Rb_has_1 : decode urb_Rb_has 1 = .ok (.getfield 25, 3) := by decide +kernel
theorem dur_Rb_has_4 : decode urb_Rb_has 4 = .ok (.iload_n 1, 1) := by decide +kernel
theorem dur_Rb_has_5 : decode urb_Rb_has 5 = .ok (.invokevirtual 57, 3) := by decide +kernel
theorem dur_Rb_has_8 : decode urb_Rb_has 8 = .ok (.ifCond .eq 15, 3) := by decide +kernel
theorem dur_Rb_has_11 : decode urb_Rb_has 11 = .ok (.aload_n 0, 1) := by decide +kernel
theorem dur_Rb_has_12 : decode urb_Rb_has 12 = .ok (.getfield 25, 3) := by decide +kernel
theorem dur_Rb_has_15 : decode urb_Rb_has 15 = .ok (.getfield 87, 3) := by decide +kernel
theorem dur_Rb_has_18 : decode urb_Rb_has 18 = .ok (.iload_n 1, 1) := by decide +kernel
theorem dur_Rb_has_19 : decode urb_Rb_has 19 = .ok (.iaload, 1) := by decide +kernel
theorem dur_Rb_has_20 : decode urb_Rb_has 20 = .ok (.goto 4, 3) := by decide +kernel
theorem dur_Rb_has_23 : decode urb_Rb_has 23 = .ok (.iconst (-1), 1) := by decide +kernel
theorem dur_Rb_has_24 : decode urb_Rb_has 24 = .ok (.ireturn, 1) := by decide +kernel
theorem dur_Nm_farthestAllowed_0 : decode urb_Nm_farthestAllowed 0 = .ok (.aload_n 0, 1) := by decide +kernel
theorem dur_Nm_farthestAllowed_1 : decode urb_Nm_farthestAllowed 1 = .ok (.getfield 22, 3) := by decide +kernel
theorem dur_Nm_farthestAllowed_4 : decode urb_Nm_farthestAllowed 4 = .ok (.iload_n 1, 1) := by decide +kernel
theorem dur_Nm_farthestAllowed_5 : decode urb_Nm_farthestAllowed 5 = .ok (.iaload, 1) := by decide +kernel
theorem dur_Nm_farthestAllowed_6 : decode urb_Nm_farthestAllowed 6 = .ok (.istore_n 2, 1) := by decide +kernel
theorem dur_Nm_farthestAllowed_7 : decode urb_Nm_farthestAllowed 7 = .ok (.iload_n 2, 1) := by decide +kernel
theorem dur_Nm_farthestAllowed_8 : decode urb_Nm_farthestAllowed 8 = .ok (.iconst 1, 1) := by decide +kernel
theorem dur_Nm_farthestAllowed_9 : decode urb_Nm_farthestAllowed 9 = .ok (.iadd, 1) := by decide +kernel
theorem dur_Nm_farthestAllowed_10 : decode urb_Nm_farthestAllowed 10 = .ok (.istore_n 3, 1) := by decide +kernel
theorem dur_Nm_farthestAllowed_11 : decode urb_Nm_farthestAllowed 11 = .ok (.iload_n 3, 1) := by decide +kernel
theorem dur_Nm_farthestAllowed_12 : decode urb_Nm_farthestAllowed 12 = .ok (.aload_n 0, 1) := by decide +kernel
theorem dur_Nm_farthestAllowed_13 : decode urb_Nm_farthestAllowed 13 = .ok (.getfield 19, 3) := by decide +kernel
theorem dur_Nm_farthestAllowed_16 : decode urb_Nm_farthestAllowed 16 = .ok (.iload_n 1, 1) := by decide +kernel
theorem dur_Nm_farthestAllowed_17 : decode urb_Nm_farthestAllowed 17 = .ok (.iaload, 1) := by decide +kernel
theorem dur_Nm_farthestAllowed_18 : decode urb_Nm_farthestAllowed 18 = .ok (.if_icmp .ge 28, 3) := by decide +kernel
theorem dur_Nm_farthestAllowed_21 : decode urb_Nm_farthestAllowed 21 = .ok (.aload_n 0, 1) := by decide +kernel
theorem dur_Nm_farthestAllowed_22 : decode urb_Nm_farthestAllowed 22 = .ok (.getfield 42, 3) := by decide +kernel
theorem dur_Nm_farthestAllowed_25 : decode urb_Nm_farthestAllowed 25 = .ok (.iload_n 1, 1) := by decide +kernel
theorem dur_Nm_farthestAllowed_26 : decode urb_Nm_farthestAllowed 26 = .ok (.aaload, 1) := by decide +kernel
theorem dur_Nm_farthestAllowed_27 : decode urb_Nm_farthestAllowed 27 = .ok (.iload_n 3, 1) := by decide +kernel
theorem dur_Nm_farthestAllowed_28 : decode urb_Nm_farthestAllowed 28 = .ok (.iaload, 1) := by decide +kernel
theorem dur_Nm_farthestAllowed_29 : decode urb_Nm_farthestAllowed 29 = .ok (.aload_n 0, 1) := by decide +kernel
theorem dur_Nm_farthestAllowed_30 : decode urb_Nm_farthestAllowed 30 = .ok (.getfield 25, 3) := by decide +kernel
theorem dur_Nm_farthestAllowed_33 : decode urb_Nm_farthestAllowed 33 = .ok (.iload_n 1, 1) := by decide +kernel
theorem dur_Nm_farthestAllowed_34 : decode urb_Nm_farthestAllowed 34 = .ok (.iaload, 1) := by decide +kernel
theorem dur_Nm_farthestAllowed_35 : decode urb_Nm_farthestAllowed 35 = .ok (.if_icmp .gt 11, 3) := by decide +kernel
theorem dur_Nm_farthestAllowed_38 : decode urb_Nm_farthestAllowed 38 = .ok (.iload_n 3, 1) := by decide +kernel
theorem dur_Nm_farthestAllowed_39 : decode urb_Nm_farthestAllowed 39 = .ok (.istore_n 2, 1) := by decide +kernel
theorem dur_Nm_farthestAllowed_40 : decode urb_Nm_farthestAllowed 40 = .ok (.iinc 3 1, 3) := by decide +kernel
theorem dur_Nm_farthestAllowed_43 : decode urb_Nm_farthestAllowed 43 = .ok (.goto (-32), 3) := by decide +kernel
theorem dur_Nm_farthestAllowed_46 : decode urb_Nm_farthestAllowed 46 = .ok (.iload_n 2, 1) := by decide +kernel
theorem dur_Nm_farthestAllowed_47 : decode urb_Nm_farthestAllowed 47 = .ok (.ireturn, 1) := by decide +kernel
theorem dur_Nm_isHit_0 : decode urb_Nm_isHit 0 = .ok (.aload_n 0, 1) := by decide +kernel
theorem dur_Nm_isHit_1 : decode urb_Nm_isHit 1 = .ok (.getfield 34, 3) := by decide +kernel
theorem dur_Nm_isHit_4 : decode urb_Nm_isHit 4 = .ok (.iload_n 1, 1) := by decide +kernel
theorem dur_Nm_isHit_5 : decode urb_Nm_isHit 5 = .ok (.iaload, 1) := by decide +kernel
theorem dur_Nm_isHit_6 : decode urb_Nm_isHit 6 = .ok (.iconst (-1), 1) := by decide +kernel
theorem dur_Nm_isHit_7 : decode urb_Nm_isHit 7 = .ok (.if_icmp .eq 22, 3) := by decide +kernel
theorem dur_Nm_isHit_10 : decode urb_Nm_isHit 10 = .ok (.aload_n 0, 1) := by decide +kernel
theorem dur_Nm_isHit_11 : decode urb_Nm_isHit 11 = .ok (.getfield 22, 3) := by decide +kernel
theorem dur_Nm_isHit_14 : decode urb_Nm_isHit 14 = .ok (.iload_n 1, 1) := by decide +kernel
theorem dur_Nm_isHit_15 : decode urb_Nm_isHit 15 = .ok (.iaload, 1) := by decide +kernel
theorem dur_Nm_isHit_16 : decode urb_Nm_isHit 16 = .ok (.aload_n 0, 1) := by decide +kernel
theorem dur_Nm_isHit_17 : decode urb_Nm_isHit 17 = .ok (.getfield 34, 3) := by decide +kernel
theorem dur_Nm_isHit_20 : decode urb_Nm_isHit 20 = .ok (.iload_n 1, 1) := by decide +kernel
theorem dur_Nm_isHit_21 : decode urb_Nm_isHit 21 = .ok (.iaload, 1) := by decide +kernel
theorem dur_Nm_isHit_22 : decode urb_Nm_isHit 22 = .ok (.if_icmp .gt 7, 3) := by decide +kernel
theorem dur_Nm_isHit_25 : decode urb_Nm_isHit 25 = .ok (.iconst 1, 1) := by decide +kernel
theorem dur_Nm_isHit_26 : decode urb_Nm_isHit 26 = .ok (.goto 4, 3) := by decide +kernel
theorem dur_Nm_isHit_29 : decode urb_Nm_isHit 29 = .ok (.iconst 0, 1) := by decide +kernel
theorem dur_Nm_isHit_30 : decode urb_Nm_isHit 30 = .ok (.ireturn, 1) := by decide +kernel
theorem dur_Nm_goalOf_0 : decode urb_Nm_goalOf 0 = .ok (.aload_n 0, 1) := by decide +kernel
theorem dur_Nm_goalOf_1 : decode urb_Nm_goalOf 1 = .ok (.iload_n 1, 1) := by decide +kernel
theorem dur_Nm_goalOf_2 : decode urb_Nm_goalOf 2 = .ok (.invokevirtual 55, 3) := by decide +kernel
theorem dur_Nm_goalOf_5 : decode urb_Nm_goalOf 5 = .ok (.istore_n 2, 1) := by decide +kernel
theorem dur_Nm_goalOf_6 : decode urb_Nm_goalOf 6 = .ok (.aload_n 0, 1) := by decide +kernel
theorem dur_Nm_goalOf_7 : decode urb_Nm_goalOf 7 = .ok (.iload_n 1, 1) := by decide +kernel
theorem dur_Nm_goalOf_8 : decode urb_Nm_goalOf 8 = .ok (.invokevirtual 59, 3) := by decide +kernel
theorem dur_Nm_goalOf_11 : decode urb_Nm_goalOf 11 = .ok (.ifCond .eq 13, 3) := by decide +kernel
theorem dur_Nm_goalOf_14 : decode urb_Nm_goalOf 14 = .ok (.iload_n 2, 1) := by decide +kernel
theorem dur_Nm_goalOf_15 : decode urb_Nm_goalOf 15 = .ok (.aload_n 0, 1) := by decide +kernel
theorem dur_Nm_goalOf_16 : decode urb_Nm_goalOf 16 = .ok (.getfield 34, 3) := by decide +kernel
theorem dur_Nm_goalOf_19 : decode urb_Nm_goalOf 19 = .ok (.iload_n 1, 1) := by decide +kernel
theorem dur_Nm_goalOf_20 : decode urb_Nm_goalOf 20 = .ok (.iaload, 1) := by decide +kernel
theorem dur_Nm_goalOf_21 : decode urb_Nm_goalOf 21 = .ok (.if_icmp .le 5, 3) := by decide +kernel
theorem dur_Nm_goalOf_24 : decode urb_Nm_goalOf 24 = .ok (.iload_n 2, 1) := by decide +kernel
theorem dur_Nm_goalOf_25 : decode urb_Nm_goalOf 25 = .ok (.ireturn, 1) := by decide +kernel
theorem dur_Nm_goalOf_26 : decode urb_Nm_goalOf 26 = .ok (.aload_n 0, 1) := by decide +kernel
theorem dur_Nm_goalOf_27 : decode urb_Nm_goalOf 27 = .ok (.getfield 34, 3) := by decide +kernel
theorem dur_Nm_goalOf_30 : decode urb_Nm_goalOf 30 = .ok (.iload_n 1, 1) := by decide +kernel
theorem dur_Nm_goalOf_31 : decode urb_Nm_goalOf 31 = .ok (.iaload, 1) := by decide +kernel
theorem dur_Nm_goalOf_32 : decode urb_Nm_goalOf 32 = .ok (.iconst 1, 1) := by decide +kernel
theorem dur_Nm_goalOf_33 : decode urb_Nm_goalOf 33 = .ok (.iadd, 1) := by decide +kernel
theorem dur_Nm_goalOf_34 : decode urb_Nm_goalOf 34 = .ok (.istore_n 3, 1) := by decide +kernel
theorem dur_Nm_goalOf_35 : decode urb_Nm_goalOf 35 = .ok (.iload_n 3, 1) := by decide +kernel
theorem dur_Nm_goalOf_36 : decode urb_Nm_goalOf 36 = .ok (.aload_n 0, 1) := by decide +kernel
theorem dur_Nm_goalOf_37 : decode urb_Nm_goalOf 37 = .ok (.getfield 19, 3) := by decide +kernel
theorem dur_Nm_goalOf_40 : decode urb_Nm_goalOf 40 = .ok (.iload_n 1, 1) := by decide +kernel
theorem dur_Nm_goalOf_41 : decode urb_Nm_goalOf 41 = .ok (.iaload, 1) := by decide +kernel
theorem dur_Nm_goalOf_42 : decode urb_Nm_goalOf 42 = .ok (.if_icmp .ge 7, 3) := by decide +kernel
theorem dur_Nm_goalOf_45 : decode urb_Nm_goalOf 45 = .ok (.iload_n 3, 1) := by decide +kernel
theorem dur_Nm_goalOf_46 : decode urb_Nm_goalOf 46 = .ok (.goto 4, 3) := by decide +kernel
theorem dur_Nm_goalOf_49 : decode urb_Nm_goalOf 49 = .ok (.iload_n 2, 1) := by decide +kernel
theorem dur_Nm_goalOf_50 : decode urb_Nm_goalOf 50 = .ok (.ireturn, 1) := by decide +kernel
theorem dur_Rb_goal_0 : decode urb_Rb_goal 0 = .ok (.aload_n 0, 1) := by decide +kernel
theorem dur_Rb_goal_1 : decode urb_Rb_goal 1 = .ok (.getfield 25, 3) := by decide +kernel
theorem dur_Rb_goal_4 : decode urb_Rb_goal 4 = .ok (.iload_n 1, 1) := by decide +kernel
theorem dur_Rb_goal_5 : decode urb_Rb_goal 5 = .ok (.invokevirtual 57, 3) := by decide +kernel
theorem dur_Rb_goal_8 : decode urb_Rb_goal 8 = .ok (.ifCond .eq 14, 3) := by decide +kernel
theorem dur_Rb_goal_11 : decode urb_Rb_goal 11 = .ok (.aload_n 0, 1) := by decide +kernel
theorem dur_Rb_goal_12 : decode urb_Rb_goal 12 = .ok (.getfield 25, 3) := by decide +kernel
theorem dur_Rb_goal_15 : decode urb_Rb_goal 15 = .ok (.iload_n 1, 1) := by decide +kernel
theorem dur_Rb_goal_16 : decode urb_Rb_goal 16 = .ok (.invokevirtual 90, 3) := by decide +kernel
theorem dur_Rb_goal_19 : decode urb_Rb_goal 19 = .ok (.goto 4, 3) := by decide +kernel
theorem dur_Rb_goal_22 : decode urb_Rb_goal 22 = .ok (.iconst (-1), 1) := by decide +kernel
theorem dur_Rb_goal_23 : decode urb_Rb_goal 23 = .ok (.ireturn, 1) := by decide +kernel
theorem dur_Nm_chiefOf_0 : decode urb_Nm_chiefOf 0 = .ok (.aload_n 0, 1) := by decide +kernel
theorem dur_Nm_chiefOf_1 : decode urb_Nm_chiefOf 1 = .ok (.getfield 31, 3) := by decide +kernel
theorem dur_Nm_chiefOf_4 : decode urb_Nm_chiefOf 4 = .ok (.iload_n 1, 1) := by decide +kernel
theorem dur_Nm_chiefOf_5 : decode urb_Nm_chiefOf 5 = .ok (.iaload, 1) := by decide +kernel
theorem dur_Nm_chiefOf_6 : decode urb_Nm_chiefOf 6 = .ok (.iconst (-1), 1) := by decide +kernel
theorem dur_Nm_chiefOf_7 : decode urb_Nm_chiefOf 7 = .ok (.if_icmp .ne 5, 3) := by decide +kernel
theorem dur_Nm_chiefOf_10 : decode urb_Nm_chiefOf 10 = .ok (.iload_n 1, 1) := by decide +kernel
theorem dur_Nm_chiefOf_11 : decode urb_Nm_chiefOf 11 = .ok (.ireturn, 1) := by decide +kernel
theorem dur_Nm_chiefOf_12 : decode urb_Nm_chiefOf 12 = .ok (.iconst 0, 1) := by decide +kernel
theorem dur_Nm_chiefOf_13 : decode urb_Nm_chiefOf 13 = .ok (.istore_n 2, 1) := by decide +kernel
theorem dur_Nm_chiefOf_14 : decode urb_Nm_chiefOf 14 = .ok (.iload_n 2, 1) := by decide +kernel
theorem dur_Nm_chiefOf_15 : decode urb_Nm_chiefOf 15 = .ok (.iload_n 1, 1) := by decide +kernel
theorem dur_Nm_chiefOf_16 : decode urb_Nm_chiefOf 16 = .ok (.if_icmp .ge 41, 3) := by decide +kernel
theorem dur_Nm_chiefOf_19 : decode urb_Nm_chiefOf 19 = .ok (.aload_n 0, 1) := by decide +kernel
theorem dur_Nm_chiefOf_20 : decode urb_Nm_chiefOf 20 = .ok (.getfield 15, 3) := by decide +kernel
theorem dur_Nm_chiefOf_23 : decode urb_Nm_chiefOf 23 = .ok (.iload_n 2, 1) := by decide +kernel
theorem dur_Nm_chiefOf_24 : decode urb_Nm_chiefOf 24 = .ok (.iaload, 1) := by decide +kernel
theorem dur_Nm_chiefOf_25 : decode urb_Nm_chiefOf 25 = .ok (.aload_n 0, 1) := by decide +kernel
theorem dur_Nm_chiefOf_26 : decode urb_Nm_chiefOf 26 = .ok (.getfield 15, 3) := by decide +kernel
theorem dur_Nm_chiefOf_29 : decode urb_Nm_chiefOf 29 = .ok (.iload_n 1, 1) := by decide +kernel
theorem dur_Nm_chiefOf_30 : decode urb_Nm_chiefOf 30 = .ok (.iaload, 1) := by decide +kernel
theorem dur_Nm_chiefOf_31 : decode urb_Nm_chiefOf 31 = .ok (.if_icmp .ne 20, 3) := by decide +kernel
theorem dur_Nm_chiefOf_34 : decode urb_Nm_chiefOf 34 = .ok (.aload_n 0, 1) := by decide +kernel
theorem dur_Nm_chiefOf_35 : decode urb_Nm_chiefOf 35 = .ok (.getfield 31, 3) := by decide +kernel
theorem dur_Nm_chiefOf_38 : decode urb_Nm_chiefOf 38 = .ok (.iload_n 2, 1) := by decide +kernel
theorem dur_Nm_chiefOf_39 : decode urb_Nm_chiefOf 39 = .ok (.iaload, 1) := by decide +kernel
theorem dur_Nm_chiefOf_40 : decode urb_Nm_chiefOf 40 = .ok (.aload_n 0, 1) := by decide +kernel
theorem dur_Nm_chiefOf_41 : decode urb_Nm_chiefOf 41 = .ok (.getfield 31, 3) := by decide +kernel
theorem dur_Nm_chiefOf_44 : decode urb_Nm_chiefOf 44 = .ok (.iload_n 1, 1) := by decide +kernel
theorem dur_Nm_chiefOf_45 : decode urb_Nm_chiefOf 45 = .ok (.iaload, 1) := by decide +kernel
theorem dur_Nm_chiefOf_46 : decode urb_Nm_chiefOf 46 = .ok (.if_icmp .ne 5, 3) := by decide +kernel
theorem dur_Nm_chiefOf_49 : decode urb_Nm_chiefOf 49 = .ok (.iload_n 2, 1) := by decide +kernel
theorem dur_Nm_chiefOf_50 : decode urb_Nm_chiefOf 50 = .ok (.ireturn, 1) := by decide +kernel
theorem dur_Nm_chiefOf_51 : decode urb_Nm_chiefOf 51 = .ok (.iinc 2 1, 3) := by decide +kernel
theorem dur_Nm_chiefOf_54 : decode urb_Nm_chiefOf 54 = .ok (.goto (-40), 3) := by decide +kernel
theorem dur_Nm_chiefOf_57 : decode urb_Nm_chiefOf 57 = .ok (.iload_n 1, 1) := by decide +kernel
theorem dur_Nm_chiefOf_58 : decode urb_Nm_chiefOf 58 = .ok (.ireturn, 1) := by decide +kernel
theorem dur_Rb_chief_0 : decode urb_Rb_chief 0 = .ok (.aload_n 0, 1) := by decide +kernel
theorem dur_Rb_chief_1 : decode urb_Rb_chief 1 = .ok (.getfield 25, 3) := by decide +kernel
theorem dur_Rb_chief_4 : decode urb_Rb_chief 4 = .ok (.iload_n 1, 1) := by decide +kernel
theorem dur_Rb_chief_5 : decode urb_Rb_chief 5 = .ok (.invokevirtual 57, 3) := by decide +kernel
theorem dur_Rb_chief_8 : decode urb_Rb_chief 8 = .ok (.ifCond .eq 14, 3) := by decide +kernel
theorem dur_Rb_chief_11 : decode urb_Rb_chief 11 = .ok (.aload_n 0, 1) := by decide +kernel
theorem dur_Rb_chief_12 : decode urb_Rb_chief 12 = .ok (.getfield 25, 3) := by decide +kernel
theorem dur_Rb_chief_15 : decode urb_Rb_chief 15 = .ok (.iload_n 1, 1) := by decide +kernel
theorem dur_Rb_chief_16 : decode urb_Rb_chief 16 = .ok (.invokevirtual 93, 3) := by decide +kernel
theorem dur_Rb_chief_19 : decode urb_Rb_chief 19 = .ok (.goto 4, 3) := by decide +kernel
theorem dur_Rb_chief_22 : decode urb_Rb_chief 22 = .ok (.iconst (-1), 1) := by decide +kernel
theorem dur_Rb_chief_23 : decode urb_Rb_chief 23 = .ok (.ireturn, 1) := by decide +kernel
theorem dur_Nm_isChief_0 : decode urb_Nm_isChief 0 = .ok (.aload_n 0, 1) := by decide +kernel
theorem dur_Nm_isChief_1 : decode urb_Nm_isChief 1 = .ok (.iload_n 1, 1) := by decide +kernel
theorem dur_Nm_isChief_2 : decode urb_Nm_isChief 2 = .ok (.invokevirtual 51, 3) := by decide +kernel
theorem dur_Nm_isChief_5 : decode urb_Nm_isChief 5 = .ok (.ifCond .eq 16, 3) := by decide +kernel
theorem dur_Nm_isChief_8 : decode urb_Nm_isChief 8 = .ok (.aload_n 0, 1) := by decide +kernel
theorem dur_Nm_isChief_9 : decode urb_Nm_isChief 9 = .ok (.iload_n 1, 1) := by decide +kernel
theorem dur_Nm_isChief_10 : decode urb_Nm_isChief 10 = .ok (.invokevirtual 62, 3) := by decide +kernel
theorem dur_Nm_isChief_13 : decode urb_Nm_isChief 13 = .ok (.iload_n 1, 1) := by decide +kernel
theorem dur_Nm_isChief_14 : decode urb_Nm_isChief 14 = .ok (.if_icmp .ne 7, 3) := by decide +kernel
theorem dur_Nm_isChief_17 : decode urb_Nm_isChief 17 = .ok (.iconst 1, 1) := by decide +kernel
theorem dur_Nm_isChief_18 : decode urb_Nm_isChief 18 = .ok (.goto 4, 3) := by decide +kernel
theorem dur_Nm_isChief_21 : decode urb_Nm_isChief 21 = .ok (.iconst 0, 1) := by decide +kernel
theorem dur_Nm_isChief_22 : decode urb_Nm_isChief 22 = .ok (.ireturn, 1) := by decide +kernel
theorem dur_So_setOut_0 : decode urb_So_setOut 0 = .ok (.iconst 0, 1) := by decide +kernel
theorem dur_So_setOut_1 : decode urb_So_setOut 1 = .ok (.istore_n 3, 1) := by decide +kernel
theorem dur_So_setOut_2 : decode urb_So_setOut 2 = .ok (.iload_n 3, 1) := by decide +kernel
theorem dur_So_setOut_3 : decode urb_So_setOut 3 = .ok (.aload_n 1, 1) := by decide +kernel
theorem dur_So_setOut_4 : decode urb_So_setOut 4 = .ok (.getfield 42, 3) := by decide +kernel
theorem dur_So_setOut_7 : decode urb_So_setOut 7 = .ok (.if_icmp .ge 38, 3) := by decide +kernel
theorem dur_So_setOut_10 : decode urb_So_setOut 10 = .ok (.aload_n 0, 1) := by decide +kernel
theorem dur_So_setOut_11 : decode urb_So_setOut 11 = .ok (.getfield 9, 3) := by decide +kernel
theorem dur_So_setOut_14 : decode urb_So_setOut 14 = .ok (.iload_n 3, 1) := by decide +kernel
theorem dur_So_setOut_15 : decode urb_So_setOut 15 = .ok (.aload_n 1, 1) := by decide +kernel
theorem dur_So_setOut_16 : decode urb_So_setOut 16 = .ok (.iload_n 3, 1) := by decide +kernel
theorem dur_So_setOut_17 : decode urb_So_setOut 17 = .ok (.invokevirtual 46, 3) := by decide +kernel
theorem dur_So_setOut_20 : decode urb_So_setOut 20 = .ok (.iload_n 2, 1) := by decide +kernel
theorem dur_So_setOut_21 : decode urb_So_setOut 21 = .ok (.if_icmp .ne 11, 3) := by decide +kernel
theorem dur_So_setOut_24 : decode urb_So_setOut 24 = .ok (.aload_n 1, 1) := by decide +kernel
theorem dur_So_setOut_25 : decode urb_So_setOut 25 = .ok (.iload_n 3, 1) := by decide +kernel
theorem dur_So_setOut_26 : decode urb_So_setOut 26 = .ok (.invokevirtual 49, 3) := by decide +kernel
theorem dur_So_setOut_29 : decode urb_So_setOut 29 = .ok (.goto 9, 3) := by decide +kernel
theorem dur_So_setOut_32 : decode urb_So_setOut 32 = .ok (.aload_n 1, 1) := by decide +kernel
theorem dur_So_setOut_33 : decode urb_So_setOut 33 = .ok (.getfield 52, 3) := by decide +kernel
theorem dur_So_setOut_36 : decode urb_So_setOut 36 = .ok (.iload_n 3, 1) := by decide +kernel
theorem dur_So_setOut_37 : decode urb_So_setOut 37 = .ok (.iaload, 1) := by decide +kernel
theorem dur_So_setOut_38 : decode urb_So_setOut 38 = .ok (.iastore, 1) := by decide +kernel
theorem dur_So_setOut_39 : decode urb_So_setOut 39 = .ok (.iinc 3 1, 3) := by decide +kernel
theorem dur_So_setOut_42 : decode urb_So_setOut 42 = .ok (.goto (-40), 3) := by decide +kernel
theorem dur_So_setOut_45 : decode urb_So_setOut 45 = .ok (.return_, 1) := by decide +kernel
theorem dur_So_lacksAtTarget_0 : decode urb_So_lacksAtTarget 0 = .ok (.aload_n 0, 1) := by decide +kernel
theorem dur_So_lacksAtTarget_1 : decode urb_So_lacksAtTarget 1 = .ok (.getfield 9, 3) := by decide +kernel
theorem dur_So_lacksAtTarget_4 : decode urb_So_lacksAtTarget 4 = .ok (.iload_n 2, 1) := by decide +kernel
theorem dur_So_lacksAtTarget_5 : decode urb_So_lacksAtTarget 5 = .ok (.iaload, 1) := by decide +kernel
theorem dur_So_lacksAtTarget_6 : decode urb_So_lacksAtTarget 6 = .ok (.istore_n 3, 1) := by decide +kernel
theorem dur_So_lacksAtTarget_7 : decode urb_So_lacksAtTarget 7 = .ok (.aload_n 1, 1) := by decide +kernel
theorem dur_So_lacksAtTarget_8 : decode urb_So_lacksAtTarget 8 = .ok (.iload_n 2, 1) := by decide +kernel
theorem dur_So_lacksAtTarget_9 : decode urb_So_lacksAtTarget 9 = .ok (.iload_n 3, 1) := by decide +kernel
theorem dur_So_lacksAtTarget_10 : decode urb_So_lacksAtTarget 10 = .ok (.invokevirtual 59, 3) := by decide +kernel
theorem dur_So_lacksAtTarget_13 : decode urb_So_lacksAtTarget 13 = .ok (.ifCond .ne 5, 3) := by decide +kernel
theorem dur_So_lacksAtTarget_16 : decode urb_So_lacksAtTarget 16 = .ok (.iconst 0, 1) := by decide +kernel
theorem dur_So_lacksAtTarget_17 : decode urb_So_lacksAtTarget 17 = .ok (.ireturn, 1) := by decide +kernel
theorem dur_So_lacksAtTarget_18 : decode urb_So_lacksAtTarget 18 = .ok (.aload_n 1, 1) := by decide +kernel
theorem dur_So_lacksAtTarget_19 : decode urb_So_lacksAtTarget 19 = .ok (.getfield 26, 3) := by decide +kernel
theorem dur_So_lacksAtTarget_22 : decode urb_So_lacksAtTarget 22 = .ok (.iload_n 2, 1) := by decide +kernel
theorem dur_So_lacksAtTarget_23 : decode urb_So_lacksAtTarget 23 = .ok (.aaload, 1) := by decide +kernel
theorem dur_So_lacksAtTarget_24 : decode urb_So_lacksAtTarget 24 = .ok (.iload_n 3, 1) := by decide +kernel
theorem dur_So_lacksAtTarget_25 : decode urb_So_lacksAtTarget 25 = .ok (.iaload, 1) := by decide +kernel
theorem dur_So_lacksAtTarget_26 : decode urb_So_lacksAtTarget 26 = .ok (.istore 4, 2) := by decide +kernel
theorem dur_So_lacksAtTarget_28 : decode urb_So_lacksAtTarget 28 = .ok (.aload_n 1, 1) := by decide +kernel
theorem dur_So_lacksAtTarget_29 : decode urb_So_lacksAtTarget 29 = .ok (.iload 4, 2) := by decide +kernel
theorem dur_So_lacksAtTarget_31 : decode urb_So_lacksAtTarget 31 = .ok (.invokevirtual 63, 3) := by decide +kernel
theorem dur_So_lacksAtTarget_34 : decode urb_So_lacksAtTarget 34 = .ok (.ifCond .eq 25, 3) := by decide +kernel
theorem dur_So_lacksAtTarget_37 : decode urb_So_lacksAtTarget 37 = .ok (.aload_n 1, 1) := by decide +kernel
theorem dur_So_lacksAtTarget_38 : decode urb_So_lacksAtTarget 38 = .ok (.getfield 32, 3) := by decide +kernel
theorem dur_So_lacksAtTarget_41 : decode urb_So_lacksAtTarget 41 = .ok (.iload_n 2, 1) := by decide +kernel
theorem dur_So_lacksAtTarget_42 : decode urb_So_lacksAtTarget 42 = .ok (.aaload, 1) := by decide +kernel
theorem dur_So_lacksAtTarget_43 : decode urb_So_lacksAtTarget 43 = .ok (.iload_n 3, 1) := by decide +kernel
theorem dur_So_lacksAtTarget_44 : decode urb_So_lacksAtTarget 44 = .ok (.iaload, 1) := by decide +kernel
theorem dur_So_lacksAtTarget_45 : decode urb_So_lacksAtTarget 45 = .ok (.aload_n 0, 1) := by decide +kernel
theorem dur_So_lacksAtTarget_46 : decode urb_So_lacksAtTarget 46 = .ok (.getfield 9, 3) := by decide +kernel
theorem dur_So_lacksAtTarget_49 : decode urb_So_lacksAtTarget 49 = .ok (.iload 4, 2) := by decide +kernel
theorem dur_So_lacksAtTarget_51 : decode urb_So_lacksAtTarget 51 = .ok (.iaload, 1) := by decide +kernel
theorem dur_So_lacksAtTarget_52 : decode urb_So_lacksAtTarget 52 = .ok (.if_icmp .le 7, 3) := by decide +kernel
theorem dur_So_lacksAtTarget_55 : decode urb_So_lacksAtTarget 55 = .ok (.iconst 1, 1) := by decide +kernel
theorem dur_So_lacksAtTarget_56 : decode urb_So_lacksAtTarget 56 = .ok (.goto 4, 3) := by decide +kernel
theorem dur_So_lacksAtTarget_59 : decode urb_So_lacksAtTarget 59 = .ok (.iconst 0, 1) := by decide +kernel
theorem dur_So_lacksAtTarget_60 : decode urb_So_lacksAtTarget 60 = .ok (.ireturn, 1) := by decide +kernel
theorem dur_So_firstNeedy_0 : decode urb_So_firstNeedy 0 = .ok (.iconst 0, 1) := by decide +kernel
theorem dur_So_firstNeedy_1 : decode urb_So_firstNeedy 1 = .ok (.istore_n 2, 1) := by decide +kernel
theorem dur_So_firstNeedy_2 : decode urb_So_firstNeedy 2 = .ok (.iload_n 2, 1) := by decide +kernel
theorem dur_So_firstNeedy_3 : decode urb_So_firstNeedy 3 = .ok (.aload_n 1, 1) := by decide +kernel
theorem dur_So_firstNeedy_4 : decode urb_So_firstNeedy 4 = .ok (.getfield 42, 3) := by decide +kernel
theorem dur_So_firstNeedy_7 : decode urb_So_firstNeedy 7 = .ok (.if_icmp .ge 35, 3) := by decide +kernel
theorem dur_So_firstNeedy_10 : decode urb_So_firstNeedy 10 = .ok (.aload_n 0, 1) := by decide +kernel
theorem dur_So_firstNeedy_11 : decode urb_So_firstNeedy 11 = .ok (.getfield 9, 3) := by decide +kernel
theorem dur_So_firstNeedy_14 : decode urb_So_firstNeedy 14 = .ok (.iload_n 2, 1) := by decide +kernel
theorem dur_So_firstNeedy_15 : decode urb_So_firstNeedy 15 = .ok (.iaload, 1) := by decide +kernel
theorem dur_So_firstNeedy_16 : decode urb_So_firstNeedy 16 = .ok (.aload_n 1, 1) := by decide +kernel
theorem dur_So_firstNeedy_17 : decode urb_So_firstNeedy 17 = .ok (.getfield 52, 3) := by decide +kernel
theorem dur_So_firstNeedy_20 : decode urb_So_firstNeedy 20 = .ok (.iload_n 2, 1) := by decide +kernel
theorem dur_So_firstNeedy_21 : decode urb_So_firstNeedy 21 = .ok (.iaload, 1) := by decide +kernel
theorem dur_So_firstNeedy_22 : decode urb_So_firstNeedy 22 = .ok (.if_icmp .le 14, 3) := by decide +kernel
theorem dur_So_firstNeedy_25 : decode urb_So_firstNeedy 25 = .ok (.aload_n 0, 1) := by decide +kernel
theorem dur_So_firstNeedy_26 : decode urb_So_firstNeedy 26 = .ok (.aload_n 1, 1) := by decide +kernel
theorem dur_So_firstNeedy_27 : decode urb_So_firstNeedy 27 = .ok (.iload_n 2, 1) := by decide +kernel
theorem dur_So_firstNeedy_28 : decode urb_So_firstNeedy 28 = .ok (.invokevirtual 55, 3) := by decide +kernel
theorem dur_So_firstNeedy_31 : decode urb_So_firstNeedy 31 = .ok (.ifCond .eq 5, 3) := by decide +kernel
theorem dur_So_firstNeedy_34 : decode urb_So_firstNeedy 34 = .ok (.iload_n 2, 1) := by decide +kernel
theorem dur_So_firstNeedy_35 : decode urb_So_firstNeedy 35 = .ok (.ireturn, 1) := by decide +kernel
theorem dur_So_firstNeedy_36 : decode urb_So_firstNeedy 36 = .ok (.iinc 2 1, 3) := by decide +kernel
theorem dur_So_firstNeedy_39 : decode urb_So_firstNeedy 39 = .ok (.goto (-37), 3) := by decide +kernel
theorem dur_So_firstNeedy_42 : decode urb_So_firstNeedy 42 = .ok (.iconst (-1), 1) := by decide +kernel
theorem dur_So_firstNeedy_43 : decode urb_So_firstNeedy 43 = .ok (.ireturn, 1) := by decide +kernel
theorem dur_So_keepRaised_0 : decode urb_So_keepRaised 0 = .ok (.iconst 0, 1) := by decide +kernel
theorem dur_So_keepRaised_1 : decode urb_So_keepRaised 1 = .ok (.istore_n 2, 1) := by decide +kernel
theorem dur_So_keepRaised_2 : decode urb_So_keepRaised 2 = .ok (.iconst 0, 1) := by decide +kernel
theorem dur_So_keepRaised_3 : decode urb_So_keepRaised 3 = .ok (.istore_n 3, 1) := by decide +kernel
theorem dur_So_keepRaised_4 : decode urb_So_keepRaised 4 = .ok (.iload_n 3, 1) := by decide +kernel
theorem dur_So_keepRaised_5 : decode urb_So_keepRaised 5 = .ok (.bipush 12, 2) := by decide +kernel
theorem dur_So_keepRaised_7 : decode urb_So_keepRaised 7 = .ok (.if_icmp .ge 54, 3) := by decide +kernel
theorem dur_So_keepRaised_10 : decode urb_So_keepRaised 10 = .ok (.aload_n 0, 1) := by decide +kernel
theorem dur_So_keepRaised_11 : decode urb_So_keepRaised 11 = .ok (.getfield 15, 3) := by decide +kernel
theorem dur_So_keepRaised_14 : decode urb_So_keepRaised 14 = .ok (.iload_n 3, 1) := by decide +kernel
theorem dur_So_keepRaised_15 : decode urb_So_keepRaised 15 = .ok (.iconst (-1), 1) := by decide +kernel
theorem dur_So_keepRaised_16 : decode urb_So_keepRaised 16 = .ok (.iastore, 1) := by decide +kernel
theorem dur_So_keepRaised_17 : decode urb_So_keepRaised 17 = .ok (.iload_n 3, 1) := by decide +kernel
theorem dur_So_keepRaised_18 : decode urb_So_keepRaised 18 = .ok (.aload_n 1, 1) := by decide +kernel
theorem dur_So_keepRaised_19 : decode urb_So_keepRaised 19 = .ok (.getfield 42, 3) := by decide +kernel
theorem dur_So_keepRaised_22 : decode urb_So_keepRaised 22 = .ok (.if_icmp .ge 33, 3) := by decide +kernel
theorem dur_So_keepRaised_25 : decode urb_So_keepRaised 25 = .ok (.aload_n 0, 1) := by decide +kernel
theorem dur_So_keepRaised_26 : decode urb_So_keepRaised 26 = .ok (.getfield 9, 3) := by decide +kernel
theorem dur_So_keepRaised_29 : decode urb_So_keepRaised 29 = .ok (.iload_n 3, 1) := by decide +kernel
theorem dur_So_keepRaised_30 : decode urb_So_keepRaised 30 = .ok (.iaload, 1) := by decide +kernel
theorem dur_So_keepRaised_31 : decode urb_So_keepRaised 31 = .ok (.aload_n 1, 1) := by decide +kernel
theorem dur_So_keepRaised_32 : decode urb_So_keepRaised 32 = .ok (.getfield 52, 3) := by decide +kernel
theorem dur_So_keepRaised_35 : decode urb_So_keepRaised 35 = .ok (.iload_n 3, 1) := by decide +kernel
theorem dur_So_keepRaised_36 : decode urb_So_keepRaised 36 = .ok (.iaload, 1) := by decide +kernel
theorem dur_So_keepRaised_37 : decode urb_So_keepRaised 37 = .ok (.if_icmp .le 18, 3) := by decide +kernel
theorem dur_So_keepRaised_40 : decode urb_So_keepRaised 40 = .ok (.aload_n 0, 1) := by decide +kernel
theorem dur_So_keepRaised_41 : decode urb_So_keepRaised 41 = .ok (.getfield 15, 3) := by decide +kernel
theorem dur_So_keepRaised_44 : decode urb_So_keepRaised 44 = .ok (.iload_n 3, 1) := by decide +kernel
theorem dur_So_keepRaised_45 : decode urb_So_keepRaised 45 = .ok (.aload_n 0, 1) := by decide +kernel
theorem dur_So_keepRaised_46 : decode urb_So_keepRaised 46 = .ok (.getfield 9, 3) := by decide +kernel
theorem dur_So_keepRaised_49 : decode urb_So_keepRaised 49 = .ok (.iload_n 3, 1) := by decide +kernel
theorem dur_So_keepRaised_50 : decode urb_So_keepRaised 50 = .ok (.iaload, 1) := by decide +kernel
theorem dur_So_keepRaised_51 : decode urb_So_keepRaised 51 = .ok (.iastore, 1) := by decide +kernel
theorem dur_So_keepRaised_52 : decode urb_So_keepRaised 52 = .ok (.iinc 2 1, 3) := by decide +kernel
theorem dur_So_keepRaised_55 : decode urb_So_keepRaised 55 = .ok (.iinc 3 1, 3) := by decide +kernel
theorem dur_So_keepRaised_58 : decode urb_So_keepRaised 58 = .ok (.goto (-54), 3) := by decide +kernel
theorem dur_So_keepRaised_61 : decode urb_So_keepRaised 61 = .ok (.iload_n 2, 1) := by decide +kernel
theorem dur_So_keepRaised_62 : decode urb_So_keepRaised 62 = .ok (.ireturn, 1) := by decide +kernel
theorem dur_So_solveUnit_0 : decode urb_So_solveUnit 0 = .ok (.aload_n 0, 1) := by decide +kernel
theorem dur_So_solveUnit_1 : decode urb_So_solveUnit 1 = .ok (.aload_n 1, 1) := by decide +kernel
theorem dur_So_solveUnit_2 : decode urb_So_solveUnit 2 = .ok (.iload_n 2, 1) := by decide +kernel
theorem dur_So_solveUnit_3 : decode urb_So_solveUnit 3 = .ok (.invokevirtual 18, 3) := by decide +kernel
theorem dur_So_solveUnit_6 : decode urb_So_solveUnit 6 = .ok (.iconst 0, 1) := by decide +kernel
theorem dur_So_solveUnit_7 : decode urb_So_solveUnit 7 = .ok (.istore_n 3, 1) := by decide +kernel
theorem dur_So_solveUnit_8 : decode urb_So_solveUnit 8 = .ok (.iload_n 3, 1) := by decide +kernel
theorem dur_So_solveUnit_9 : decode urb_So_solveUnit 9 = .ok (.bipush 96, 2) := by decide +kernel
theorem dur_So_solveUnit_11 : decode urb_So_solveUnit 11 = .ok (.if_icmp .ge 85, 3) := by decide +kernel
theorem dur_So_solveUnit_14 : decode urb_So_solveUnit 14 = .ok (.aload_n 0, 1) := by decide +kernel
theorem dur_So_solveUnit_15 : decode urb_So_solveUnit 15 = .ok (.aload_n 1, 1) := by decide +kernel
theorem dur_So_solveUnit_16 : decode urb_So_solveUnit 16 = .ok (.invokevirtual 22, 3) := by decide +kernel
theorem dur_So_solveUnit_19 : decode urb_So_solveUnit 19 = .ok (.istore 4, 2) := by decide +kernel
theorem dur_So_solveUnit_21 : decode urb_So_solveUnit 21 = .ok (.iload 4, 2) := by decide +kernel
theorem dur_So_solveUnit_23 : decode urb_So_solveUnit 23 = .ok (.iconst (-1), 1) := by decide +kernel
theorem dur_So_solveUnit_24 : decode urb_So_solveUnit 24 = .ok (.if_icmp .ne 6, 3) := by decide +kernel
theorem dur_So_solveUnit_27 : decode urb_So_solveUnit 27 = .ok (.goto 69, 3) := by decide +kernel
theorem dur_So_solveUnit_30 : decode urb_So_solveUnit 30 = .ok (.aload_n 1, 1) := by decide +kernel
theorem dur_So_solveUnit_31 : decode urb_So_solveUnit 31 = .ok (.getfield 26, 3) := by decide +kernel
theorem dur_So_solveUnit_34 : decode urb_So_solveUnit 34 = .ok (.iload 4, 2) := by decide +kernel
theorem dur_So_solveUnit_36 : decode urb_So_solveUnit 36 = .ok (.aaload, 1) := by decide +kernel
theorem dur_So_solveUnit_37 : decode urb_So_solveUnit 37 = .ok (.aload_n 0, 1) := by decide +kernel
theorem dur_So_solveUnit_38 : decode urb_So_solveUnit 38 = .ok (.getfield 9, 3) := by decide +kernel
theorem dur_So_solveUnit_41 : decode urb_So_solveUnit 41 = .ok (.iload 4, 2) := by decide +kernel
theorem dur_So_solveUnit_43 : decode urb_So_solveUnit 43 = .ok (.iaload, 1) := by decide +kernel
theorem dur_So_solveUnit_44 : decode urb_So_solveUnit 44 = .ok (.iaload, 1) := by decide +kernel
theorem dur_So_solveUnit_45 : decode urb_So_solveUnit 45 = .ok (.istore 5, 2) := by decide +kernel
theorem dur_So_solveUnit_47 : decode urb_So_solveUnit 47 = .ok (.aload_n 1, 1) := by decide +kernel
theorem dur_So_solveUnit_48 : decode urb_So_solveUnit 48 = .ok (.getfield 32, 3) := by decide +kernel
theorem dur_So_solveUnit_51 : decode urb_So_solveUnit 51 = .ok (.iload 4, 2) := by decide +kernel
theorem dur_So_solveUnit_53 : decode urb_So_solveUnit 53 = .ok (.aaload, 1) := by decide +kernel
theorem dur_So_solveUnit_54 : decode urb_So_solveUnit 54 = .ok (.aload_n 0, 1) := by decide +kernel
theorem dur_So_solveUnit_55 : decode urb_So_solveUnit 55 = .ok (.getfield 9, 3) := by decide +kernel
theorem dur_So_solveUnit_58 : decode urb_So_solveUnit 58 = .ok (.iload 4, 2) := by decide +kernel
theorem dur_So_solveUnit_60 : decode urb_So_solveUnit 60 = .ok (.iaload, 1) := by decide +kernel
theorem dur_So_solveUnit_61 : decode urb_So_solveUnit 61 = .ok (.iaload, 1) := by decide +kernel
theorem dur_So_solveUnit_62 : decode urb_So_solveUnit 62 = .ok (.istore 6, 2) := by decide +kernel
theorem dur_So_solveUnit_64 : decode urb_So_solveUnit 64 = .ok (.iload 6, 2) := by decide +kernel
theorem dur_So_solveUnit_66 : decode urb_So_solveUnit 66 = .ok (.aload_n 1, 1) := by decide +kernel
theorem dur_So_solveUnit_67 : decode urb_So_solveUnit 67 = .ok (.iload 5, 2) := by decide +kernel
theorem dur_So_solveUnit_69 : decode urb_So_solveUnit 69 = .ok (.invokevirtual 35, 3) := by decide +kernel
theorem dur_So_solveUnit_72 : decode urb_So_solveUnit 72 = .ok (.if_icmp .le 9, 3) := by decide +kernel
theorem dur_So_solveUnit_75 : decode urb_So_solveUnit 75 = .ok (.bipush (-2), 2) := by decide +kernel
theorem dur_So_solveUnit_77 : decode urb_So_solveUnit 77 = .ok (.iload 5, 2) := by decide +kernel
theorem dur_So_solveUnit_79 : decode urb_So_solveUnit 79 = .ok (.isub, 1) := by decide +kernel
theorem dur_So_solveUnit_80 : decode urb_So_solveUnit 80 = .ok (.ireturn, 1) := by decide +kernel
theorem dur_So_solveUnit_81 : decode urb_So_solveUnit 81 = .ok (.aload_n 0, 1) := by decide +kernel
theorem dur_So_solveUnit_82 : decode urb_So_solveUnit 82 = .ok (.getfield 9, 3) := by decide +kernel
theorem dur_So_solveUnit_85 : decode urb_So_solveUnit 85 = .ok (.iload 5, 2) := by decide +kernel
theorem dur_So_solveUnit_87 : decode urb_So_solveUnit 87 = .ok (.iload 6, 2) := by decide +kernel
theorem dur_So_solveUnit_89 : decode urb_So_solveUnit 89 = .ok (.iastore, 1) := by decide +kernel
theorem dur_So_solveUnit_90 : decode urb_So_solveUnit 90 = .ok (.iinc 3 1, 3) := by decide +kernel
theorem dur_So_solveUnit_93 : decode urb_So_solveUnit 93 = .ok (.goto (-85), 3) := by decide +kernel
theorem dur_So_solveUnit_96 : decode urb_So_solveUnit 96 = .ok (.aload_n 0, 1) := by decide +kernel
theorem dur_So_solveUnit_97 : decode urb_So_solveUnit 97 = .ok (.aload_n 1, 1) := by decide +kernel
theorem dur_So_solveUnit_98 : decode urb_So_solveUnit 98 = .ok (.invokevirtual 39, 3) := by decide +kernel
theorem dur_So_solveUnit_101 : decode urb_So_solveUnit 101 = .ok (.ireturn, 1) := by decide +kernel
theorem dur_Rb_solve_0 : decode urb_Rb_solve 0 = .ok (.aload_n 0, 1) := by decide +kernel
theorem dur_Rb_solve_1 : decode urb_Rb_solve 1 = .ok (.getfield 25, 3) := by decide +kernel
theorem dur_Rb_solve_4 : decode urb_Rb_solve 4 = .ok (.iload_n 1, 1) := by decide +kernel
theorem dur_Rb_solve_5 : decode urb_Rb_solve 5 = .ok (.invokevirtual 96, 3) := by decide +kernel
theorem dur_Rb_solve_8 : decode urb_Rb_solve 8 = .ok (.ifCond .eq 18, 3) := by decide +kernel
theorem dur_Rb_solve_11 : decode urb_Rb_solve 11 = .ok (.aload_n 0, 1) := by decide +kernel
theorem dur_Rb_solve_12 : decode urb_Rb_solve 12 = .ok (.getfield 32, 3) := by decide +kernel
theorem dur_Rb_solve_15 : decode urb_Rb_solve 15 = .ok (.aload_n 0, 1) := by decide +kernel
theorem dur_Rb_solve_16 : decode urb_Rb_solve 16 = .ok (.getfield 25, 3) := by decide +kernel
theorem dur_Rb_solve_19 : decode urb_Rb_solve 19 = .ok (.iload_n 1, 1) := by decide +kernel
theorem dur_Rb_solve_20 : decode urb_Rb_solve 20 = .ok (.invokevirtual 99, 3) := by decide +kernel
theorem dur_Rb_solve_23 : decode urb_Rb_solve 23 = .ok (.goto 4, 3) := by decide +kernel
theorem dur_Rb_solve_26 : decode urb_Rb_solve 26 = .ok (.iconst (-1), 1) := by decide +kernel
theorem dur_Rb_solve_27 : decode urb_Rb_solve 27 = .ok (.ireturn, 1) := by decide +kernel
theorem dur_Rb_tick_0 : decode urb_Rb_tick 0 = .ok (.iload_n 1, 1) := by decide +kernel
theorem dur_Rb_tick_1 : decode urb_Rb_tick 1 = .ok (.ifCond .lt 20, 3) := by decide +kernel
theorem dur_Rb_tick_4 : decode urb_Rb_tick 4 = .ok (.iload_n 1, 1) := by decide +kernel
theorem dur_Rb_tick_5 : decode urb_Rb_tick 5 = .ok (.ldc 103, 2) := by decide +kernel
theorem dur_Rb_tick_7 : decode urb_Rb_tick 7 = .ok (.if_icmp .gt 14, 3) := by decide +kernel
theorem dur_Rb_tick_10 : decode urb_Rb_tick 10 = .ok (.iload_n 1, 1) := by decide +kernel
theorem dur_Rb_tick_11 : decode urb_Rb_tick 11 = .ok (.ldc 104, 2) := by decide +kernel
theorem dur_Rb_tick_13 : decode urb_Rb_tick 13 = .ok (.aload_n 0, 1) := by decide +kernel
theorem dur_Rb_tick_14 : decode urb_Rb_tick 14 = .ok (.getfield 43, 3) := by decide +kernel
theorem dur_Rb_tick_17 : decode urb_Rb_tick 17 = .ok (.isub, 1) := by decide +kernel
theorem dur_Rb_tick_18 : decode urb_Rb_tick 18 = .ok (.if_icmp .le 5, 3) := by decide +kernel
theorem dur_Rb_tick_21 : decode urb_Rb_tick 21 = .ok (.iconst (-1), 1) := by decide +kernel
theorem dur_Rb_tick_22 : decode urb_Rb_tick 22 = .ok (.ireturn, 1) := by decide +kernel
theorem dur_Rb_tick_23 : decode urb_Rb_tick 23 = .ok (.aload_n 0, 1) := by decide +kernel
theorem dur_Rb_tick_24 : decode urb_Rb_tick 24 = .ok (.dup, 1) := by decide +kernel
theorem dur_Rb_tick_25 : decode urb_Rb_tick 25 = .ok (.getfield 43, 3) := by decide +kernel
theorem dur_Rb_tick_28 : decode urb_Rb_tick 28 = .ok (.iload_n 1, 1) := by decide +kernel
theorem dur_Rb_tick_29 : decode urb_Rb_tick 29 = .ok (.iadd, 1) := by decide +kernel
theorem dur_Rb_tick_30 : decode urb_Rb_tick 30 = .ok (.putfield 43, 3) := by decide +kernel
theorem dur_Rb_tick_33 : decode urb_Rb_tick 33 = .ok (.aload_n 0, 1) := by decide +kernel
theorem dur_Rb_tick_34 : decode urb_Rb_tick 34 = .ok (.getfield 43, 3) := by decide +kernel
theorem dur_Rb_tick_37 : decode urb_Rb_tick 37 = .ok (.ireturn, 1) := by decide +kernel
theorem dur_Nm_isUnitHit_0 : decode urb_Nm_isUnitHit 0 = .ok (.iconst 0, 1) := by decide +kernel
theorem dur_Nm_isUnitHit_1 : decode urb_Nm_isUnitHit 1 = .ok (.istore_n 2, 1) := by decide +kernel
theorem dur_Nm_isUnitHit_2 : decode urb_Nm_isUnitHit 2 = .ok (.iload_n 2, 1) := by decide +kernel
theorem dur_Nm_isUnitHit_3 : decode urb_Nm_isUnitHit 3 = .ok (.aload_n 0, 1) := by decide +kernel
theorem dur_Nm_isUnitHit_4 : decode urb_Nm_isUnitHit 4 = .ok (.getfield 9, 3) := by decide +kernel
theorem dur_Nm_isUnitHit_7 : decode urb_Nm_isUnitHit 7 = .ok (.if_icmp .ge 28, 3) := by decide +kernel
theorem dur_Nm_isUnitHit_10 : decode urb_Nm_isUnitHit 10 = .ok (.aload_n 0, 1) := by decide +kernel
theorem dur_Nm_isUnitHit_11 : decode urb_Nm_isUnitHit 11 = .ok (.iload_n 2, 1) := by decide +kernel
theorem dur_Nm_isUnitHit_12 : decode urb_Nm_isUnitHit 12 = .ok (.invokevirtual 59, 3) := by decide +kernel
theorem dur_Nm_isUnitHit_15 : decode urb_Nm_isUnitHit 15 = .ok (.ifCond .eq 14, 3) := by decide +kernel
theorem dur_Nm_isUnitHit_18 : decode urb_Nm_isUnitHit 18 = .ok (.aload_n 0, 1) := by decide +kernel
theorem dur_Nm_isUnitHit_19 : decode urb_Nm_isUnitHit 19 = .ok (.iload_n 2, 1) := by decide +kernel
theorem dur_Nm_isUnitHit_20 : decode urb_Nm_isUnitHit 20 = .ok (.invokevirtual 62, 3) := by decide +kernel
theorem dur_Nm_isUnitHit_23 : decode urb_Nm_isUnitHit 23 = .ok (.iload_n 1, 1) := by decide +kernel
theorem dur_Nm_isUnitHit_24 : decode urb_Nm_isUnitHit 24 = .ok (.if_icmp .ne 5, 3) := by decide +kernel
theorem dur_Nm_isUnitHit_27 : decode urb_Nm_isUnitHit 27 = .ok (.iconst 1, 1) := by decide +kernel
theorem dur_Nm_isUnitHit_28 : decode urb_Nm_isUnitHit 28 = .ok (.ireturn, 1) := by decide +kernel
theorem dur_Nm_isUnitHit_29 : decode urb_Nm_isUnitHit 29 = .ok (.iinc 2 1, 3) := by decide +kernel
theorem dur_Nm_isUnitHit_32 : decode urb_Nm_isUnitHit 32 = .ok (.goto (-30), 3) := by decide +kernel
theorem dur_Nm_isUnitHit_35 : decode urb_Nm_isUnitHit 35 = .ok (.iconst 0, 1) := by decide +kernel
theorem dur_Nm_isUnitHit_36 : decode urb_Nm_isUnitHit 36 = .ok (.ireturn, 1) := by decide +kernel
theorem dur_Nm_leastEvery_0 : decode urb_Nm_leastEvery 0 = .ok (.sipush 1000, 3) := by decide +kernel
theorem dur_Nm_leastEvery_3 : decode urb_Nm_leastEvery 3 = .ok (.istore_n 2, 1) := by decide +kernel
theorem dur_Nm_leastEvery_4 : decode urb_Nm_leastEvery 4 = .ok (.iconst 0, 1) := by decide +kernel
theorem dur_Nm_leastEvery_5 : decode urb_Nm_leastEvery 5 = .ok (.istore_n 3, 1) := by decide +kernel
theorem dur_Nm_leastEvery_6 : decode urb_Nm_leastEvery 6 = .ok (.iload_n 3, 1) := by decide +kernel
theorem dur_Nm_leastEvery_7 : decode urb_Nm_leastEvery 7 = .ok (.aload_n 0, 1) := by decide +kernel
theorem dur_Nm_leastEvery_8 : decode urb_Nm_leastEvery 8 = .ok (.getfield 9, 3) := by decide +kernel
theorem dur_Nm_leastEvery_11 : decode urb_Nm_leastEvery 11 = .ok (.if_icmp .ge 29, 3) := by decide +kernel
theorem dur_Nm_leastEvery_14 : decode urb_Nm_leastEvery 14 = .ok (.aload_n 0, 1) := by decide +kernel
theorem dur_Nm_leastEvery_15 : decode urb_Nm_leastEvery 15 = .ok (.iload_n 3, 1) := by decide +kernel
theorem dur_Nm_leastEvery_16 : decode urb_Nm_leastEvery 16 = .ok (.invokevirtual 62, 3) := by decide +kernel
theorem dur_Nm_leastEvery_19 : decode urb_Nm_leastEvery 19 = .ok (.iload_n 1, 1) := by decide +kernel
end
section
theorem dur_Nm_leastEvery_20 : decode urb_Nm_leastEvery 20 = .ok (.if_icmp .ne 14, 3) := by decide +kernel
theorem dur_Nm_leastEvery_23 : decode urb_Nm_leastEvery 23 = .ok (.iload_n 2, 1) := by decide +kernel
theorem dur_Nm_leastEvery_24 : decode urb_Nm_leastEvery 24 = .ok (.aload_n 0, 1) := by decide +kernel
theorem dur_Nm_leastEvery_25 : decode urb_Nm_leastEvery 25 = .ok (.getfield 28, 3) := by decide +kernel
theorem dur_Nm_leastEvery_28 : decode urb_Nm_leastEvery 28 = .ok (.iload_n 3, 1) := by decide +kernel
theorem dur_Nm_leastEvery_29 : decode urb_Nm_leastEvery 29 = .ok (.iaload, 1) := by decide +kernel
theorem dur_Nm_leastEvery_30 : decode urb_Nm_leastEvery 30 = .ok (.invokestatic 65, 3) := by decide +kernel
theorem dur_Nm_leastEvery_33 : decode urb_Nm_leastEvery 33 = .ok (.istore_n 2, 1) := by decide +kernel
theorem dur_Nm_leastEvery_34 : decode urb_Nm_leastEvery 34 = .ok (.iinc 3 1, 3) := by decide +kernel
theorem dur_Nm_leastEvery_37 : decode urb_Nm_leastEvery 37 = .ok (.goto (-31), 3) := by decide +kernel
theorem dur_Nm_leastEvery_40 : decode urb_Nm_leastEvery 40 = .ok (.iload_n 2, 1) := by decide +kernel
theorem dur_Nm_leastEvery_41 : decode urb_Nm_leastEvery 41 = .ok (.ireturn, 1) := by decide +kernel
theorem dur_Rb_isDue_0 : decode urb_Rb_isDue 0 = .ok (.aload_n 0, 1) := by decide +kernel
theorem dur_Rb_isDue_1 : decode urb_Rb_isDue 1 = .ok (.getfield 25, 3) := by decide +kernel
theorem dur_Rb_isDue_4 : decode urb_Rb_isDue 4 = .ok (.getfield 112, 3) := by decide +kernel
theorem dur_Rb_isDue_7 : decode urb_Rb_isDue 7 = .ok (.iload_n 1, 1) := by decide +kernel
theorem dur_Rb_isDue_8 : decode urb_Rb_isDue 8 = .ok (.iaload, 1) := by decide +kernel
theorem dur_Rb_isDue_9 : decode urb_Rb_isDue 9 = .ok (.istore_n 2, 1) := by decide +kernel
theorem dur_Rb_isDue_10 : decode urb_Rb_isDue 10 = .ok (.iload_n 2, 1) := by decide +kernel
theorem dur_Rb_isDue_11 : decode urb_Rb_isDue 11 = .ok (.iconst (-1), 1) := by decide +kernel
theorem dur_Rb_isDue_12 : decode urb_Rb_isDue 12 = .ok (.if_icmp .eq 31, 3) := by decide +kernel
theorem dur_Rb_isDue_15 : decode urb_Rb_isDue 15 = .ok (.aload_n 0, 1) := by decide +kernel
theorem dur_Rb_isDue_16 : decode urb_Rb_isDue 16 = .ok (.getfield 25, 3) := by decide +kernel
theorem dur_Rb_isDue_19 : decode urb_Rb_isDue 19 = .ok (.iload_n 1, 1) := by decide +kernel
theorem dur_Rb_isDue_20 : decode urb_Rb_isDue 20 = .ok (.invokevirtual 152, 3) := by decide +kernel
theorem dur_Rb_isDue_23 : decode urb_Rb_isDue 23 = .ok (.ifCond .ne 20, 3) := by decide +kernel
theorem dur_Rb_isDue_26 : decode urb_Rb_isDue 26 = .ok (.aload_n 0, 1) := by decide +kernel
theorem dur_Rb_isDue_27 : decode urb_Rb_isDue 27 = .ok (.getfield 43, 3) := by decide +kernel
theorem dur_Rb_isDue_30 : decode urb_Rb_isDue 30 = .ok (.iload_n 2, 1) := by decide +kernel
theorem dur_Rb_isDue_31 : decode urb_Rb_isDue 31 = .ok (.isub, 1) := by decide +kernel
theorem dur_Rb_isDue_32 : decode urb_Rb_isDue 32 = .ok (.aload_n 0, 1) := by decide +kernel
theorem dur_Rb_isDue_33 : decode urb_Rb_isDue 33 = .ok (.getfield 25, 3) := by decide +kernel
theorem dur_Rb_isDue_36 : decode urb_Rb_isDue 36 = .ok (.iload_n 1, 1) := by decide +kernel
theorem dur_Rb_isDue_37 : decode urb_Rb_isDue 37 = .ok (.invokevirtual 155, 3) := by decide +kernel
theorem dur_Rb_isDue_40 : decode urb_Rb_isDue 40 = .ok (.if_icmp .lt 7, 3) := by decide +kernel
theorem dur_Rb_isDue_43 : decode urb_Rb_isDue 43 = .ok (.iconst 1, 1) := by decide +kernel
theorem dur_Rb_isDue_44 : decode urb_Rb_isDue 44 = .ok (.goto 4, 3) := by decide +kernel
theorem dur_Rb_isDue_47 : decode urb_Rb_isDue 47 = .ok (.iconst 0, 1) := by decide +kernel
theorem dur_Rb_isDue_48 : decode urb_Rb_isDue 48 = .ok (.ireturn, 1) := by decide +kernel
theorem dur_Pr_latestOf_0 : decode urb_Pr_latestOf 0 = .ok (.aload_n 0, 1) := by decide +kernel
theorem dur_Pr_latestOf_1 : decode urb_Pr_latestOf 1 = .ok (.getfield 9, 3) := by decide +kernel
theorem dur_Pr_latestOf_4 : decode urb_Pr_latestOf 4 = .ok (.iconst 1, 1) := by decide +kernel
theorem dur_Pr_latestOf_5 : decode urb_Pr_latestOf 5 = .ok (.isub, 1) := by decide +kernel
theorem dur_Pr_latestOf_6 : decode urb_Pr_latestOf 6 = .ok (.istore_n 3, 1) := by decide +kernel
theorem dur_Pr_latestOf_7 : decode urb_Pr_latestOf 7 = .ok (.iload_n 3, 1) := by decide +kernel
theorem dur_Pr_latestOf_8 : decode urb_Pr_latestOf 8 = .ok (.ifCond .lt 31, 3) := by decide +kernel
theorem dur_Pr_latestOf_11 : decode urb_Pr_latestOf 11 = .ok (.aload_n 0, 1) := by decide +kernel
theorem dur_Pr_latestOf_12 : decode urb_Pr_latestOf 12 = .ok (.getfield 19, 3) := by decide +kernel
theorem dur_Pr_latestOf_15 : decode urb_Pr_latestOf 15 = .ok (.iload_n 3, 1) := by decide +kernel
theorem dur_Pr_latestOf_16 : decode urb_Pr_latestOf 16 = .ok (.iaload, 1) := by decide +kernel
theorem dur_Pr_latestOf_17 : decode urb_Pr_latestOf 17 = .ok (.iload_n 1, 1) := by decide +kernel
theorem dur_Pr_latestOf_18 : decode urb_Pr_latestOf 18 = .ok (.if_icmp .ne 15, 3) := by decide +kernel
theorem dur_Pr_latestOf_21 : decode urb_Pr_latestOf 21 = .ok (.aload_n 0, 1) := by decide +kernel
theorem dur_Pr_latestOf_22 : decode urb_Pr_latestOf 22 = .ok (.getfield 15, 3) := by decide +kernel
theorem dur_Pr_latestOf_25 : decode urb_Pr_latestOf 25 = .ok (.iload_n 3, 1) := by decide +kernel
theorem dur_Pr_latestOf_26 : decode urb_Pr_latestOf 26 = .ok (.iaload, 1) := by decide +kernel
theorem dur_Pr_latestOf_27 : decode urb_Pr_latestOf 27 = .ok (.iload_n 2, 1) := by decide +kernel
theorem dur_Pr_latestOf_28 : decode urb_Pr_latestOf 28 = .ok (.if_icmp .ne 5, 3) := by decide +kernel
theorem dur_Pr_latestOf_31 : decode urb_Pr_latestOf 31 = .ok (.iload_n 3, 1) := by decide +kernel
theorem dur_Pr_latestOf_32 : decode urb_Pr_latestOf 32 = .ok (.ireturn, 1) := by decide +kernel
theorem dur_Pr_latestOf_33 : decode urb_Pr_latestOf 33 = .ok (.iinc 3 (-1), 3) := by decide +kernel
theorem dur_Pr_latestOf_36 : decode urb_Pr_latestOf 36 = .ok (.goto (-29), 3) := by decide +kernel
theorem dur_Pr_latestOf_39 : decode urb_Pr_latestOf 39 = .ok (.iconst (-1), 1) := by decide +kernel
theorem dur_Pr_latestOf_40 : decode urb_Pr_latestOf 40 = .ok (.ireturn, 1) := by decide +kernel
theorem dur_Pr_openOf_0 : decode urb_Pr_openOf 0 = .ok (.aload_n 0, 1) := by decide +kernel
theorem dur_Pr_openOf_1 : decode urb_Pr_openOf 1 = .ok (.iload_n 1, 1) := by decide +kernel
theorem dur_Pr_openOf_2 : decode urb_Pr_openOf 2 = .ok (.iconst 0, 1) := by decide +kernel
theorem dur_Pr_openOf_3 : decode urb_Pr_openOf 3 = .ok (.invokevirtual 49, 3) := by decide +kernel
theorem dur_Pr_openOf_6 : decode urb_Pr_openOf 6 = .ok (.ireturn, 1) := by decide +kernel
theorem dur_Pr_isKnown_0 : decode urb_Pr_isKnown 0 = .ok (.iload_n 1, 1) := by decide +kernel
theorem dur_Pr_isKnown_1 : decode urb_Pr_isKnown 1 = .ok (.ifCond .lt 15, 3) := by decide +kernel
theorem dur_Pr_isKnown_4 : decode urb_Pr_isKnown 4 = .ok (.iload_n 1, 1) := by decide +kernel
theorem dur_Pr_isKnown_5 : decode urb_Pr_isKnown 5 = .ok (.aload_n 0, 1) := by decide +kernel
theorem dur_Pr_isKnown_6 : decode urb_Pr_isKnown 6 = .ok (.getfield 9, 3) := by decide +kernel
theorem dur_Pr_isKnown_9 : decode urb_Pr_isKnown 9 = .ok (.if_icmp .ge 7, 3) := by decide +kernel
theorem dur_Pr_isKnown_12 : decode urb_Pr_isKnown 12 = .ok (.iconst 1, 1) := by decide +kernel
theorem dur_Pr_isKnown_13 : decode urb_Pr_isKnown 13 = .ok (.goto 4, 3) := by decide +kernel
theorem dur_Pr_isKnown_16 : decode urb_Pr_isKnown 16 = .ok (.iconst 0, 1) := by decide +kernel
theorem dur_Pr_isKnown_17 : decode urb_Pr_isKnown 17 = .ok (.ireturn, 1) := by decide +kernel
theorem dur_Pr_closeIfAny_0 : decode urb_Pr_closeIfAny 0 = .ok (.aload_n 0, 1) := by decide +kernel
theorem dur_Pr_closeIfAny_1 : decode urb_Pr_closeIfAny 1 = .ok (.iload_n 1, 1) := by decide +kernel
theorem dur_Pr_closeIfAny_2 : decode urb_Pr_closeIfAny 2 = .ok (.invokevirtual 37, 3) := by decide +kernel
theorem dur_Pr_closeIfAny_5 : decode urb_Pr_closeIfAny 5 = .ok (.ifCond .eq 10, 3) := by decide +kernel
theorem dur_Pr_closeIfAny_8 : decode urb_Pr_closeIfAny 8 = .ok (.aload_n 0, 1) := by decide +kernel
theorem dur_Pr_closeIfAny_9 : decode urb_Pr_closeIfAny 9 = .ok (.getfield 15, 3) := by decide +kernel
theorem dur_Pr_closeIfAny_12 : decode urb_Pr_closeIfAny 12 = .ok (.iload_n 1, 1) := by decide +kernel
theorem dur_Pr_closeIfAny_13 : decode urb_Pr_closeIfAny 13 = .ok (.iload_n 2, 1) := by decide +kernel
theorem dur_Pr_closeIfAny_14 : decode urb_Pr_closeIfAny 14 = .ok (.iastore, 1) := by decide +kernel
theorem dur_Pr_closeIfAny_15 : decode urb_Pr_closeIfAny 15 = .ok (.return_, 1) := by decide +kernel
theorem dur_Pr_raisesJust_0 : decode urb_Pr_raisesJust 0 = .ok (.aload_n 0, 1) := by decide +kernel
theorem dur_Pr_raisesJust_1 : decode urb_Pr_raisesJust 1 = .ok (.iload_n 1, 1) := by decide +kernel
theorem dur_Pr_raisesJust_2 : decode urb_Pr_raisesJust 2 = .ok (.invokevirtual 37, 3) := by decide +kernel
theorem dur_Pr_raisesJust_5 : decode urb_Pr_raisesJust 5 = .ok (.ifCond .ne 5, 3) := by decide +kernel
theorem dur_Pr_raisesJust_8 : decode urb_Pr_raisesJust 8 = .ok (.iconst 0, 1) := by decide +kernel
theorem dur_Pr_raisesJust_9 : decode urb_Pr_raisesJust 9 = .ok (.ireturn, 1) := by decide +kernel
theorem dur_Pr_raisesJust_10 : decode urb_Pr_raisesJust 10 = .ok (.iconst 0, 1) := by decide +kernel
theorem dur_Pr_raisesJust_11 : decode urb_Pr_raisesJust 11 = .ok (.istore_n 3, 1) := by decide +kernel
theorem dur_Pr_raisesJust_12 : decode urb_Pr_raisesJust 12 = .ok (.iload_n 3, 1) := by decide +kernel
theorem dur_Pr_raisesJust_13 : decode urb_Pr_raisesJust 13 = .ok (.bipush 12, 2) := by decide +kernel
theorem dur_Pr_raisesJust_15 : decode urb_Pr_raisesJust 15 = .ok (.if_icmp .ge 31, 3) := by decide +kernel
theorem dur_Pr_raisesJust_18 : decode urb_Pr_raisesJust 18 = .ok (.iload_n 3, 1) := by decide +kernel
theorem dur_Pr_raisesJust_19 : decode urb_Pr_raisesJust 19 = .ok (.aload_n 2, 1) := by decide +kernel
theorem dur_Pr_raisesJust_20 : decode urb_Pr_raisesJust 20 = .ok (.arraylength, 1) := by decide +kernel
theorem dur_Pr_raisesJust_21 : decode urb_Pr_raisesJust 21 = .ok (.if_icmp .ge 25, 3) := by decide +kernel
theorem dur_Pr_raisesJust_24 : decode urb_Pr_raisesJust 24 = .ok (.aload_n 0, 1) := by decide +kernel
theorem dur_Pr_raisesJust_25 : decode urb_Pr_raisesJust 25 = .ok (.getfield 34, 3) := by decide +kernel
theorem dur_Pr_raisesJust_28 : decode urb_Pr_raisesJust 28 = .ok (.iload_n 1, 1) := by decide +kernel
theorem dur_Pr_raisesJust_29 : decode urb_Pr_raisesJust 29 = .ok (.aaload, 1) := by decide +kernel
theorem dur_Pr_raisesJust_30 : decode urb_Pr_raisesJust 30 = .ok (.iload_n 3, 1) := by decide +kernel
theorem dur_Pr_raisesJust_31 : decode urb_Pr_raisesJust 31 = .ok (.iaload, 1) := by decide +kernel
theorem dur_Pr_raisesJust_32 : decode urb_Pr_raisesJust 32 = .ok (.aload_n 2, 1) := by decide +kernel
theorem dur_Pr_raisesJust_33 : decode urb_Pr_raisesJust 33 = .ok (.iload_n 3, 1) := by decide +kernel
theorem dur_Pr_raisesJust_34 : decode urb_Pr_raisesJust 34 = .ok (.iaload, 1) := by decide +kernel
theorem dur_Pr_raisesJust_35 : decode urb_Pr_raisesJust 35 = .ok (.if_icmp .eq 5, 3) := by decide +kernel
theorem dur_Pr_raisesJust_38 : decode urb_Pr_raisesJust 38 = .ok (.iconst 0, 1) := by decide +kernel
theorem dur_Pr_raisesJust_39 : decode urb_Pr_raisesJust 39 = .ok (.ireturn, 1) := by decide +kernel
theorem dur_Pr_raisesJust_40 : decode urb_Pr_raisesJust 40 = .ok (.iinc 3 1, 3) := by decide +kernel
theorem dur_Pr_raisesJust_43 : decode urb_Pr_raisesJust 43 = .ok (.goto (-31), 3) := by decide +kernel
theorem dur_Pr_raisesJust_46 : decode urb_Pr_raisesJust 46 = .ok (.iconst 1, 1) := by decide +kernel
theorem dur_Pr_raisesJust_47 : decode urb_Pr_raisesJust 47 = .ok (.ireturn, 1) := by decide +kernel
theorem dur_Pr_latestFailedOf_0 : decode urb_Pr_latestFailedOf 0 = .ok (.aload_n 0, 1) := by decide +kernel
theorem dur_Pr_latestFailedOf_1 : decode urb_Pr_latestFailedOf 1 = .ok (.iload_n 1, 1) := by decide +kernel
theorem dur_Pr_latestFailedOf_2 : decode urb_Pr_latestFailedOf 2 = .ok (.iconst 4, 1) := by decide +kernel
theorem dur_Pr_latestFailedOf_3 : decode urb_Pr_latestFailedOf 3 = .ok (.invokevirtual 49, 3) := by decide +kernel
theorem dur_Pr_latestFailedOf_6 : decode urb_Pr_latestFailedOf 6 = .ok (.ireturn, 1) := by decide +kernel
theorem dur_Pr_isFull_0 : decode urb_Pr_isFull 0 = .ok (.aload_n 0, 1) := by decide +kernel
theorem dur_Pr_isFull_1 : decode urb_Pr_isFull 1 = .ok (.getfield 9, 3) := by decide +kernel
theorem dur_Pr_isFull_4 : decode urb_Pr_isFull 4 = .ok (.bipush 60, 2) := by decide +kernel
theorem dur_Pr_isFull_6 : decode urb_Pr_isFull 6 = .ok (.if_icmp .lt 7, 3) := by decide +kernel
theorem dur_Pr_isFull_9 : decode urb_Pr_isFull 9 = .ok (.iconst 1, 1) := by decide +kernel
theorem dur_Pr_isFull_10 : decode urb_Pr_isFull 10 = .ok (.goto 4, 3) := by decide +kernel
theorem dur_Pr_isFull_13 : decode urb_Pr_isFull 13 = .ok (.iconst 0, 1) := by decide +kernel
theorem dur_Pr_isFull_14 : decode urb_Pr_isFull 14 = .ok (.ireturn, 1) := by decide +kernel
theorem dur_Pr_isOpen_0 : decode urb_Pr_isOpen 0 = .ok (.aload_n 0, 1) := by decide +kernel
theorem dur_Pr_isOpen_1 : decode urb_Pr_isOpen 1 = .ok (.iload_n 1, 1) := by decide +kernel
theorem dur_Pr_isOpen_2 : decode urb_Pr_isOpen 2 = .ok (.invokevirtual 37, 3) := by decide +kernel
theorem dur_Pr_isOpen_5 : decode urb_Pr_isOpen 5 = .ok (.ifCond .eq 16, 3) := by decide +kernel
theorem dur_Pr_isOpen_8 : decode urb_Pr_isOpen 8 = .ok (.aload_n 0, 1) := by decide +kernel
theorem dur_Pr_isOpen_9 : decode urb_Pr_isOpen 9 = .ok (.getfield 15, 3) := by decide +kernel
theorem dur_Pr_isOpen_12 : decode urb_Pr_isOpen 12 = .ok (.iload_n 1, 1) := by decide +kernel
theorem dur_Pr_isOpen_13 : decode urb_Pr_isOpen 13 = .ok (.iaload, 1) := by decide +kernel
theorem dur_Pr_isOpen_14 : decode urb_Pr_isOpen 14 = .ok (.ifCond .ne 7, 3) := by decide +kernel
theorem dur_Pr_isOpen_17 : decode urb_Pr_isOpen 17 = .ok (.iconst 1, 1) := by decide +kernel
theorem dur_Pr_isOpen_18 : decode urb_Pr_isOpen 18 = .ok (.goto 4, 3) := by decide +kernel
theorem dur_Pr_isOpen_21 : decode urb_Pr_isOpen 21 = .ok (.iconst 0, 1) := by decide +kernel
theorem dur_Pr_isOpen_22 : decode urb_Pr_isOpen 22 = .ok (.ireturn, 1) := by decide +kernel
theorem dur_Rb_openIn_0 : decode urb_Rb_openIn 0 = .ok (.iconst 0, 1) := by decide +kernel
theorem dur_Rb_openIn_1 : decode urb_Rb_openIn 1 = .ok (.istore_n 2, 1) := by decide +kernel
theorem dur_Rb_openIn_2 : decode urb_Rb_openIn 2 = .ok (.iconst 0, 1) := by decide +kernel
theorem dur_Rb_openIn_3 : decode urb_Rb_openIn 3 = .ok (.istore_n 3, 1) := by decide +kernel
theorem dur_Rb_openIn_4 : decode urb_Rb_openIn 4 = .ok (.iload_n 3, 1) := by decide +kernel
theorem dur_Rb_openIn_5 : decode urb_Rb_openIn 5 = .ok (.aload_n 0, 1) := by decide +kernel
theorem dur_Rb_openIn_6 : decode urb_Rb_openIn 6 = .ok (.getfield 39, 3) := by decide +kernel
theorem dur_Rb_openIn_9 : decode urb_Rb_openIn 9 = .ok (.getfield 105, 3) := by decide +kernel
theorem dur_Rb_openIn_12 : decode urb_Rb_openIn 12 = .ok (.if_icmp .ge 44, 3) := by decide +kernel
theorem dur_Rb_openIn_15 : decode urb_Rb_openIn 15 = .ok (.aload_n 0, 1) := by decide +kernel
theorem dur_Rb_openIn_16 : decode urb_Rb_openIn 16 = .ok (.getfield 39, 3) := by decide +kernel
theorem dur_Rb_openIn_19 : decode urb_Rb_openIn 19 = .ok (.iload_n 3, 1) := by decide +kernel
theorem dur_Rb_openIn_20 : decode urb_Rb_openIn 20 = .ok (.invokevirtual 139, 3) := by decide +kernel
theorem dur_Rb_openIn_23 : decode urb_Rb_openIn 23 = .ok (.ifCond .eq 27, 3) := by decide +kernel
theorem dur_Rb_openIn_26 : decode urb_Rb_openIn 26 = .ok (.aload_n 0, 1) := by decide +kernel
theorem dur_Rb_openIn_27 : decode urb_Rb_openIn 27 = .ok (.getfield 25, 3) := by decide +kernel
theorem dur_Rb_openIn_30 : decode urb_Rb_openIn 30 = .ok (.getfield 184, 3) := by decide +kernel
theorem dur_Rb_openIn_33 : decode urb_Rb_openIn 33 = .ok (.aload_n 0, 1) := by decide +kernel
theorem dur_Rb_openIn_34 : decode urb_Rb_openIn 34 = .ok (.getfield 39, 3) := by decide +kernel
theorem dur_Rb_openIn_37 : decode urb_Rb_openIn 37 = .ok (.getfield 123, 3) := by decide +kernel
theorem dur_Rb_openIn_40 : decode urb_Rb_openIn 40 = .ok (.iload_n 3, 1) := by decide +kernel
theorem dur_Rb_openIn_41 : decode urb_Rb_openIn 41 = .ok (.iaload, 1) := by decide +kernel
theorem dur_Rb_openIn_42 : decode urb_Rb_openIn 42 = .ok (.iaload, 1) := by decide +kernel
theorem dur_Rb_openIn_43 : decode urb_Rb_openIn 43 = .ok (.iload_n 1, 1) := by decide +kernel
theorem dur_Rb_openIn_44 : decode urb_Rb_openIn 44 = .ok (.if_icmp .ne 6, 3) := by decide +kernel
theorem dur_Rb_openIn_47 : decode urb_Rb_openIn 47 = .ok (.iinc 2 1, 3) := by decide +kernel
theorem dur_Rb_openIn_50 : decode urb_Rb_openIn 50 = .ok (.iinc 3 1, 3) := by decide +kernel
theorem dur_Rb_openIn_53 : decode urb_Rb_openIn 53 = .ok (.goto (-49), 3) := by decide +kernel
theorem dur_Rb_openIn_56 : decode urb_Rb_openIn 56 = .ok (.iload_n 2, 1) := by decide +kernel
theorem dur_Rb_openIn_57 : decode urb_Rb_openIn 57 = .ok (.ireturn, 1) := by decide +kernel
theorem dur_Rb_mayOpen_0 : decode urb_Rb_mayOpen 0 = .ok (.aload_n 0, 1) := by decide +kernel
theorem dur_Rb_mayOpen_1 : decode urb_Rb_mayOpen 1 = .ok (.getfield 39, 3) := by decide +kernel
theorem dur_Rb_mayOpen_4 : decode urb_Rb_mayOpen 4 = .ok (.invokevirtual 180, 3) := by decide +kernel
theorem dur_Rb_mayOpen_7 : decode urb_Rb_mayOpen 7 = .ok (.ifCond .eq 5, 3) := by decide +kernel
theorem dur_Rb_mayOpen_10 : decode urb_Rb_mayOpen 10 = .ok (.iconst 0, 1) := by decide +kernel
theorem dur_Rb_mayOpen_11 : decode urb_Rb_mayOpen 11 = .ok (.ireturn, 1) := by decide +kernel
theorem dur_Rb_mayOpen_12 : decode urb_Rb_mayOpen 12 = .ok (.iload_n 2, 1) := by decide +kernel
theorem dur_Rb_mayOpen_13 : decode urb_Rb_mayOpen 13 = .ok (.iconst (-1), 1) := by decide +kernel
theorem dur_Rb_mayOpen_14 : decode urb_Rb_mayOpen 14 = .ok (.if_icmp .ne 34, 3) := by decide +kernel
theorem dur_Rb_mayOpen_17 : decode urb_Rb_mayOpen 17 = .ok (.aload_n 0, 1) := by decide +kernel
theorem dur_Rb_mayOpen_18 : decode urb_Rb_mayOpen 18 = .ok (.getfield 25, 3) := by decide +kernel
theorem dur_Rb_mayOpen_21 : decode urb_Rb_mayOpen 21 = .ok (.iload_n 1, 1) := by decide +kernel
theorem dur_Rb_mayOpen_22 : decode urb_Rb_mayOpen 22 = .ok (.invokevirtual 152, 3) := by decide +kernel
theorem dur_Rb_mayOpen_25 : decode urb_Rb_mayOpen 25 = .ok (.ifCond .ne 23, 3) := by decide +kernel
theorem dur_Rb_mayOpen_28 : decode urb_Rb_mayOpen 28 = .ok (.aload_n 0, 1) := by decide +kernel
theorem dur_Rb_mayOpen_29 : decode urb_Rb_mayOpen 29 = .ok (.aload_n 0, 1) := by decide +kernel
theorem dur_Rb_mayOpen_30 : decode urb_Rb_mayOpen 30 = .ok (.getfield 25, 3) := by decide +kernel
theorem dur_Rb_mayOpen_33 : decode urb_Rb_mayOpen 33 = .ok (.getfield 184, 3) := by decide +kernel
theorem dur_Rb_mayOpen_36 : decode urb_Rb_mayOpen 36 = .ok (.iload_n 1, 1) := by decide +kernel
theorem dur_Rb_mayOpen_37 : decode urb_Rb_mayOpen 37 = .ok (.iaload, 1) := by decide +kernel
theorem dur_Rb_mayOpen_38 : decode urb_Rb_mayOpen 38 = .ok (.invokevirtual 149, 3) := by decide +kernel
theorem dur_Rb_mayOpen_41 : decode urb_Rb_mayOpen 41 = .ok (.aload_n 0, 1) := by decide +kernel
theorem dur_Rb_mayOpen_42 : decode urb_Rb_mayOpen 42 = .ok (.getfield 18, 3) := by decide +kernel
theorem dur_Rb_mayOpen_45 : decode urb_Rb_mayOpen 45 = .ok (.if_icmp .ge 7, 3) := by decide +kernel
theorem dur_Rb_mayOpen_48 : decode urb_Rb_mayOpen 48 = .ok (.iconst 1, 1) := by decide +kernel
theorem dur_Rb_mayOpen_49 : decode urb_Rb_mayOpen 49 = .ok (.goto 4, 3) := by decide +kernel
theorem dur_Rb_mayOpen_52 : decode urb_Rb_mayOpen 52 = .ok (.iconst 0, 1) := by decide +kernel
theorem dur_Rb_mayOpen_53 : decode urb_Rb_mayOpen 53 = .ok (.ireturn, 1) := by decide +kernel
theorem dur_Pr_setRaised_0 : decode urb_Pr_setRaised 0 = .ok (.iconst 0, 1) := by decide +kernel
theorem dur_Pr_setRaised_1 : decode urb_Pr_setRaised 1 = .ok (.istore_n 3, 1) := by decide +kernel
theorem dur_Pr_setRaised_2 : decode urb_Pr_setRaised 2 = .ok (.iload_n 3, 1) := by decide +kernel
theorem dur_Pr_setRaised_3 : decode urb_Pr_setRaised 3 = .ok (.bipush 12, 2) := by decide +kernel
theorem dur_Pr_setRaised_5 : decode urb_Pr_setRaised 5 = .ok (.if_icmp .ge 26, 3) := by decide +kernel
theorem dur_Pr_setRaised_8 : decode urb_Pr_setRaised 8 = .ok (.iload_n 3, 1) := by decide +kernel
theorem dur_Pr_setRaised_9 : decode urb_Pr_setRaised 9 = .ok (.aload_n 2, 1) := by decide +kernel
theorem dur_Pr_setRaised_10 : decode urb_Pr_setRaised 10 = .ok (.arraylength, 1) := by decide +kernel
theorem dur_Pr_setRaised_11 : decode urb_Pr_setRaised 11 = .ok (.if_icmp .ge 20, 3) := by decide +kernel
theorem dur_Pr_setRaised_14 : decode urb_Pr_setRaised 14 = .ok (.aload_n 0, 1) := by decide +kernel
theorem dur_Pr_setRaised_15 : decode urb_Pr_setRaised 15 = .ok (.getfield 34, 3) := by decide +kernel
theorem dur_Pr_setRaised_18 : decode urb_Pr_setRaised 18 = .ok (.iload_n 1, 1) := by decide +kernel
theorem dur_Pr_setRaised_19 : decode urb_Pr_setRaised 19 = .ok (.aaload, 1) := by decide +kernel
theorem dur_Pr_setRaised_20 : decode urb_Pr_setRaised 20 = .ok (.iload_n 3, 1) := by decide +kernel
theorem dur_Pr_setRaised_21 : decode urb_Pr_setRaised 21 = .ok (.aload_n 2, 1) := by decide +kernel
theorem dur_Pr_setRaised_22 : decode urb_Pr_setRaised 22 = .ok (.iload_n 3, 1) := by decide +kernel
theorem dur_Pr_setRaised_23 : decode urb_Pr_setRaised 23 = .ok (.iaload, 1) := by decide +kernel
theorem dur_Pr_setRaised_24 : decode urb_Pr_setRaised 24 = .ok (.iastore, 1) := by decide +kernel
theorem dur_Pr_setRaised_25 : decode urb_Pr_setRaised 25 = .ok (.iinc 3 1, 3) := by decide +kernel
theorem dur_Pr_setRaised_28 : decode urb_Pr_setRaised 28 = .ok (.goto (-26), 3) := by decide +kernel
theorem dur_Pr_setRaised_31 : decode urb_Pr_setRaised 31 = .ok (.return_, 1) := by decide +kernel
theorem dur_Pr_add_0 : decode urb_Pr_add 0 = .ok (.aload_n 0, 1) := by decide +kernel
theorem dur_Pr_add_1 : decode urb_Pr_add 1 = .ok (.invokevirtual 41, 3) := by decide +kernel
theorem dur_Pr_add_4 : decode urb_Pr_add 4 = .ok (.ifCond .eq 4, 3) := by decide +kernel
theorem dur_Pr_add_7 : decode urb_Pr_add 7 = .ok (.return_, 1) := by decide +kernel
theorem dur_Pr_add_8 : decode urb_Pr_add 8 = .ok (.aload_n 0, 1) := by decide +kernel
theorem dur_Pr_add_9 : decode urb_Pr_add 9 = .ok (.getfield 9, 3) := by decide +kernel
theorem dur_Pr_add_12 : decode urb_Pr_add 12 = .ok (.istore 5, 2) := by decide +kernel
theorem dur_Pr_add_14 : decode urb_Pr_add 14 = .ok (.aload_n 0, 1) := by decide +kernel
theorem dur_Pr_add_15 : decode urb_Pr_add 15 = .ok (.dup, 1) := by decide +kernel
theorem dur_Pr_add_16 : decode urb_Pr_add 16 = .ok (.getfield 9, 3) := by decide +kernel
theorem dur_Pr_add_19 : decode urb_Pr_add 19 = .ok (.iconst 1, 1) := by decide +kernel
theorem dur_Pr_add_20 : decode urb_Pr_add 20 = .ok (.iadd, 1) := by decide +kernel
theorem dur_Pr_add_21 : decode urb_Pr_add 21 = .ok (.putfield 9, 3) := by decide +kernel
theorem dur_Pr_add_24 : decode urb_Pr_add 24 = .ok (.aload_n 0, 1) := by decide +kernel
theorem dur_Pr_add_25 : decode urb_Pr_add 25 = .ok (.getfield 15, 3) := by decide +kernel
theorem dur_Pr_add_28 : decode urb_Pr_add 28 = .ok (.iload 5, 2) := by decide +kernel
theorem dur_Pr_add_30 : decode urb_Pr_add 30 = .ok (.iconst 0, 1) := by decide +kernel
theorem dur_Pr_add_31 : decode urb_Pr_add 31 = .ok (.iastore, 1) := by decide +kernel
theorem dur_Pr_add_32 : decode urb_Pr_add 32 = .ok (.aload_n 0, 1) := by decide +kernel
theorem dur_Pr_add_33 : decode urb_Pr_add 33 = .ok (.getfield 19, 3) := by decide +kernel
theorem dur_Pr_add_36 : decode urb_Pr_add 36 = .ok (.iload 5, 2) := by decide +kernel
theorem dur_Pr_add_38 : decode urb_Pr_add 38 = .ok (.iload_n 1, 1) := by decide +kernel
theorem dur_Pr_add_39 : decode urb_Pr_add 39 = .ok (.iastore, 1) := by decide +kernel
theorem dur_Pr_add_40 : decode urb_Pr_add 40 = .ok (.aload_n 0, 1) := by decide +kernel
theorem dur_Pr_add_41 : decode urb_Pr_add 41 = .ok (.getfield 22, 3) := by decide +kernel
theorem dur_Pr_add_44 : decode urb_Pr_add 44 = .ok (.iload 5, 2) := by decide +kernel
theorem dur_Pr_add_46 : decode urb_Pr_add 46 = .ok (.iconst 0, 1) := by decide +kernel
theorem dur_Pr_add_47 : decode urb_Pr_add 47 = .ok (.iastore, 1) := by decide +kernel
theorem dur_Pr_add_48 : decode urb_Pr_add 48 = .ok (.aload_n 0, 1) := by decide +kernel
theorem dur_Pr_add_49 : decode urb_Pr_add 49 = .ok (.getfield 25, 3) := by decide +kernel
theorem dur_Pr_add_52 : decode urb_Pr_add 52 = .ok (.iload 5, 2) := by decide +kernel
theorem dur_Pr_add_54 : decode urb_Pr_add 54 = .ok (.iload_n 2, 1) := by decide +kernel
theorem dur_Pr_add_55 : decode urb_Pr_add 55 = .ok (.iastore, 1) := by decide +kernel
theorem dur_Pr_add_56 : decode urb_Pr_add 56 = .ok (.aload_n 0, 1) := by decide +kernel
theorem dur_Pr_add_57 : decode urb_Pr_add 57 = .ok (.getfield 28, 3) := by decide +kernel
theorem dur_Pr_add_60 : decode urb_Pr_add 60 = .ok (.iload 5, 2) := by decide +kernel
theorem dur_Pr_add_62 : decode urb_Pr_add 62 = .ok (.iload_n 3, 1) := by decide +kernel
theorem dur_Pr_add_63 : decode urb_Pr_add 63 = .ok (.bastore, 1) := by decide +kernel
theorem dur_Pr_add_64 : decode urb_Pr_add 64 = .ok (.aload_n 0, 1) := by decide +kernel
theorem dur_Pr_add_65 : decode urb_Pr_add 65 = .ok (.iload 5, 2) := by decide +kernel
theorem dur_Pr_add_67 : decode urb_Pr_add 67 = .ok (.aload 4, 2) := by decide +kernel
theorem dur_Pr_add_69 : decode urb_Pr_add 69 = .ok (.invokevirtual 45, 3) := by decide +kernel
theorem dur_Pr_add_72 : decode urb_Pr_add 72 = .ok (.return_, 1) := by decide +kernel
theorem dur_Rb_review_0 : decode urb_Rb_review 0 = .ok (.aload_n 0, 1) := by decide +kernel
theorem dur_Rb_review_1 : decode urb_Rb_review 1 = .ok (.getfield 39, 3) := by decide +kernel
theorem dur_Rb_review_4 : decode urb_Rb_review 4 = .ok (.iload_n 1, 1) := by decide +kernel
theorem dur_Rb_review_5 : decode urb_Rb_review 5 = .ok (.invokevirtual 158, 3) := by decide +kernel
theorem dur_Rb_review_8 : decode urb_Rb_review 8 = .ok (.istore_n 2, 1) := by decide +kernel
theorem dur_Rb_review_9 : decode urb_Rb_review 9 = .ok (.aload_n 0, 1) := by decide +kernel
theorem dur_Rb_review_10 : decode urb_Rb_review 10 = .ok (.getfield 32, 3) := by decide +kernel
theorem dur_Rb_review_13 : decode urb_Rb_review 13 = .ok (.aload_n 0, 1) := by decide +kernel
theorem dur_Rb_review_14 : decode urb_Rb_review 14 = .ok (.getfield 25, 3) := by decide +kernel
theorem dur_Rb_review_17 : decode urb_Rb_review 17 = .ok (.iload_n 1, 1) := by decide +kernel
theorem dur_Rb_review_18 : decode urb_Rb_review 18 = .ok (.invokevirtual 99, 3) := by decide +kernel
theorem dur_Rb_review_21 : decode urb_Rb_review 21 = .ok (.ifCond .gt 13, 3) := by decide +kernel
theorem dur_Rb_review_24 : decode urb_Rb_review 24 = .ok (.aload_n 0, 1) := by decide +kernel
theorem dur_Rb_review_25 : decode urb_Rb_review 25 = .ok (.getfield 39, 3) := by decide +kernel
theorem dur_Rb_review_28 : decode urb_Rb_review 28 = .ok (.iload_n 2, 1) := by decide +kernel
theorem dur_Rb_review_29 : decode urb_Rb_review 29 = .ok (.iconst 3, 1) := by decide +kernel
theorem dur_Rb_review_30 : decode urb_Rb_review 30 = .ok (.invokevirtual 161, 3) := by decide +kernel
theorem dur_Rb_review_33 : decode urb_Rb_review 33 = .ok (.return_, 1) := by decide +kernel
theorem dur_Rb_review_34 : decode urb_Rb_review 34 = .ok (.aload_n 0, 1) := by decide +kernel
theorem dur_Rb_review_35 : decode urb_Rb_review 35 = .ok (.getfield 39, 3) := by decide +kernel
theorem dur_Rb_review_38 : decode urb_Rb_review 38 = .ok (.iload_n 2, 1) := by decide +kernel
theorem dur_Rb_review_39 : decode urb_Rb_review 39 = .ok (.aload_n 0, 1) := by decide +kernel
theorem dur_Rb_review_40 : decode urb_Rb_review 40 = .ok (.getfield 32, 3) := by decide +kernel
theorem dur_Rb_review_43 : decode urb_Rb_review 43 = .ok (.getfield 165, 3) := by decide +kernel
theorem dur_Rb_review_46 : decode urb_Rb_review 46 = .ok (.invokevirtual 167, 3) := by decide +kernel
theorem dur_Rb_review_49 : decode urb_Rb_review 49 = .ok (.ifCond .eq 4, 3) := by decide +kernel
theorem dur_Rb_review_52 : decode urb_Rb_review 52 = .ok (.return_, 1) := by decide +kernel
theorem dur_Rb_review_53 : decode urb_Rb_review 53 = .ok (.aload_n 0, 1) := by decide +kernel
theorem dur_Rb_review_54 : decode urb_Rb_review 54 = .ok (.getfield 39, 3) := by decide +kernel
theorem dur_Rb_review_57 : decode urb_Rb_review 57 = .ok (.aload_n 0, 1) := by decide +kernel
theorem dur_Rb_review_58 : decode urb_Rb_review 58 = .ok (.getfield 39, 3) := by decide +kernel
theorem dur_Rb_review_61 : decode urb_Rb_review 61 = .ok (.iload_n 1, 1) := by decide +kernel
theorem dur_Rb_review_62 : decode urb_Rb_review 62 = .ok (.invokevirtual 171, 3) := by decide +kernel
theorem dur_Rb_review_65 : decode urb_Rb_review 65 = .ok (.aload_n 0, 1) := by decide +kernel
theorem dur_Rb_review_66 : decode urb_Rb_review 66 = .ok (.getfield 32, 3) := by decide +kernel
theorem dur_Rb_review_69 : decode urb_Rb_review 69 = .ok (.getfield 165, 3) := by decide +kernel
theorem dur_Rb_review_72 : decode urb_Rb_review 72 = .ok (.invokevirtual 167, 3) := by decide +kernel
theorem dur_Rb_review_75 : decode urb_Rb_review 75 = .ok (.ifCond .eq 13, 3) := by decide +kernel
theorem dur_Rb_review_78 : decode urb_Rb_review 78 = .ok (.aload_n 0, 1) := by decide +kernel
theorem dur_Rb_review_79 : decode urb_Rb_review 79 = .ok (.getfield 39, 3) := by decide +kernel
theorem dur_Rb_review_82 : decode urb_Rb_review 82 = .ok (.iload_n 2, 1) := by decide +kernel
theorem dur_Rb_review_83 : decode urb_Rb_review 83 = .ok (.iconst 3, 1) := by decide +kernel
theorem dur_Rb_review_84 : decode urb_Rb_review 84 = .ok (.invokevirtual 161, 3) := by decide +kernel
theorem dur_Rb_review_87 : decode urb_Rb_review 87 = .ok (.return_, 1) := by decide +kernel
theorem dur_Rb_review_88 : decode urb_Rb_review 88 = .ok (.aload_n 0, 1) := by decide +kernel
theorem dur_Rb_review_89 : decode urb_Rb_review 89 = .ok (.iload_n 1, 1) := by decide +kernel
theorem dur_Rb_review_90 : decode urb_Rb_review 90 = .ok (.iload_n 2, 1) := by decide +kernel
theorem dur_Rb_review_91 : decode urb_Rb_review 91 = .ok (.invokevirtual 174, 3) := by decide +kernel
theorem dur_Rb_review_94 : decode urb_Rb_review 94 = .ok (.ifCond .ne 14, 3) := by decide +kernel
theorem dur_Rb_review_97 : decode urb_Rb_review 97 = .ok (.aload_n 0, 1) := by decide +kernel
theorem dur_Rb_review_98 : decode urb_Rb_review 98 = .ok (.dup, 1) := by decide +kernel
theorem dur_Rb_review_99 : decode urb_Rb_review 99 = .ok (.getfield 46, 3) := by decide +kernel
theorem dur_Rb_review_102 : decode urb_Rb_review 102 = .ok (.iconst 1, 1) := by decide +kernel
theorem dur_Rb_review_103 : decode urb_Rb_review 103 = .ok (.iadd, 1) := by decide +kernel
theorem dur_Rb_review_104 : decode urb_Rb_review 104 = .ok (.putfield 46, 3) := by decide +kernel
theorem dur_Rb_review_107 : decode urb_Rb_review 107 = .ok (.return_, 1) := by decide +kernel
theorem dur_Rb_review_108 : decode urb_Rb_review 108 = .ok (.aload_n 0, 1) := by decide +kernel
theorem dur_Rb_review_109 : decode urb_Rb_review 109 = .ok (.getfield 39, 3) := by decide +kernel
theorem dur_Rb_review_112 : decode urb_Rb_review 112 = .ok (.iload_n 2, 1) := by decide +kernel
theorem dur_Rb_review_113 : decode urb_Rb_review 113 = .ok (.iconst 2, 1) := by decide +kernel
theorem dur_Rb_review_114 : decode urb_Rb_review 114 = .ok (.invokevirtual 161, 3) := by decide +kernel
theorem dur_Rb_review_117 : decode urb_Rb_review 117 = .ok (.aload_n 0, 1) := by decide +kernel
theorem dur_Rb_review_118 : decode urb_Rb_review 118 = .ok (.getfield 39, 3) := by decide +kernel
theorem dur_Rb_review_121 : decode urb_Rb_review 121 = .ok (.iload_n 1, 1) := by decide +kernel
theorem dur_Rb_review_122 : decode urb_Rb_review 122 = .ok (.aload_n 0, 1) := by decide +kernel
theorem dur_Rb_review_123 : decode urb_Rb_review 123 = .ok (.getfield 43, 3) := by decide +kernel
theorem dur_Rb_review_126 : decode urb_Rb_review 126 = .ok (.aload_n 0, 1) := by decide +kernel
theorem dur_Rb_review_127 : decode urb_Rb_review 127 = .ok (.getfield 25, 3) := by decide +kernel
theorem dur_Rb_review_130 : decode urb_Rb_review 130 = .ok (.iload_n 1, 1) := by decide +kernel
theorem dur_Rb_review_131 : decode urb_Rb_review 131 = .ok (.invokevirtual 152, 3) := by decide +kernel
theorem dur_Rb_review_134 : decode urb_Rb_review 134 = .ok (.aload_n 0, 1) := by decide +kernel
theorem dur_Rb_review_135 : decode urb_Rb_review 135 = .ok (.getfield 32, 3) := by decide +kernel
theorem dur_Rb_review_138 : decode urb_Rb_review 138 = .ok (.getfield 165, 3) := by decide +kernel
theorem dur_Rb_review_141 : decode urb_Rb_review 141 = .ok (.invokevirtual 177, 3) := by decide +kernel
theorem dur_Rb_review_144 : decode urb_Rb_review 144 = .ok (.return_, 1) := by decide +kernel
theorem dur_Rb_run_0 : decode urb_Rb_run 0 = .ok (.aload_n 0, 1) := by decide +kernel
theorem dur_Rb_run_1 : decode urb_Rb_run 1 = .ok (.getfield 39, 3) := by decide +kernel
theorem dur_Rb_run_4 : decode urb_Rb_run 4 = .ok (.getfield 105, 3) := by decide +kernel
theorem dur_Rb_run_7 : decode urb_Rb_run 7 = .ok (.istore_n 1, 1) := by decide +kernel
theorem dur_Rb_run_8 : decode urb_Rb_run 8 = .ok (.aload_n 0, 1) := by decide +kernel
theorem dur_Rb_run_9 : decode urb_Rb_run 9 = .ok (.iconst 0, 1) := by decide +kernel
theorem dur_Rb_run_10 : decode urb_Rb_run 10 = .ok (.putfield 46, 3) := by decide +kernel
theorem dur_Rb_run_13 : decode urb_Rb_run 13 = .ok (.iconst 0, 1) := by decide +kernel
theorem dur_Rb_run_14 : decode urb_Rb_run 14 = .ok (.istore_n 2, 1) := by decide +kernel
theorem dur_Rb_run_15 : decode urb_Rb_run 15 = .ok (.iload_n 2, 1) := by decide +kernel
theorem dur_Rb_run_16 : decode urb_Rb_run 16 = .ok (.aload_n 0, 1) := by decide +kernel
theorem dur_Rb_run_17 : decode urb_Rb_run 17 = .ok (.getfield 25, 3) := by decide +kernel
theorem dur_Rb_run_20 : decode urb_Rb_run 20 = .ok (.getfield 108, 3) := by decide +kernel
theorem dur_Rb_run_23 : decode urb_Rb_run 23 = .ok (.if_icmp .ge 46, 3) := by decide +kernel
theorem dur_Rb_run_26 : decode urb_Rb_run 26 = .ok (.aload_n 0, 1) := by decide +kernel
theorem dur_Rb_run_27 : decode urb_Rb_run 27 = .ok (.getfield 25, 3) := by decide +kernel
theorem dur_Rb_run_30 : decode urb_Rb_run 30 = .ok (.iload_n 2, 1) := by decide +kernel
theorem dur_Rb_run_31 : decode urb_Rb_run 31 = .ok (.invokevirtual 96, 3) := by decide +kernel
theorem dur_Rb_run_34 : decode urb_Rb_run 34 = .ok (.ifCond .eq 29, 3) := by decide +kernel
theorem dur_Rb_run_37 : decode urb_Rb_run 37 = .ok (.aload_n 0, 1) := by decide +kernel
theorem dur_Rb_run_38 : decode urb_Rb_run 38 = .ok (.iload_n 2, 1) := by decide +kernel
theorem dur_Rb_run_39 : decode urb_Rb_run 39 = .ok (.invokevirtual 109, 3) := by decide +kernel
theorem dur_Rb_run_42 : decode urb_Rb_run 42 = .ok (.ifCond .eq 21, 3) := by decide +kernel
theorem dur_Rb_run_45 : decode urb_Rb_run 45 = .ok (.aload_n 0, 1) := by decide +kernel
theorem dur_Rb_run_46 : decode urb_Rb_run 46 = .ok (.getfield 25, 3) := by decide +kernel
theorem dur_Rb_run_49 : decode urb_Rb_run 49 = .ok (.getfield 112, 3) := by decide +kernel
theorem dur_Rb_run_52 : decode urb_Rb_run 52 = .ok (.iload_n 2, 1) := by decide +kernel
theorem dur_Rb_run_53 : decode urb_Rb_run 53 = .ok (.aload_n 0, 1) := by decide +kernel
theorem dur_Rb_run_54 : decode urb_Rb_run 54 = .ok (.getfield 43, 3) := by decide +kernel
theorem dur_Rb_run_57 : decode urb_Rb_run 57 = .ok (.iastore, 1) := by decide +kernel
theorem dur_Rb_run_58 : decode urb_Rb_run 58 = .ok (.aload_n 0, 1) := by decide +kernel
theorem dur_Rb_run_59 : decode urb_Rb_run 59 = .ok (.iload_n 2, 1) := by decide +kernel
theorem dur_Rb_run_60 : decode urb_Rb_run 60 = .ok (.invokevirtual 115, 3) := by decide +kernel
theorem dur_Rb_run_63 : decode urb_Rb_run 63 = .ok (.iinc 2 1, 3) := by decide +kernel
theorem dur_Rb_run_66 : decode urb_Rb_run 66 = .ok (.goto (-51), 3) := by decide +kernel
theorem dur_Rb_run_69 : decode urb_Rb_run 69 = .ok (.aload_n 0, 1) := by decide +kernel
theorem dur_Rb_run_70 : decode urb_Rb_run 70 = .ok (.getfield 39, 3) := by decide +kernel
theorem dur_Rb_run_73 : decode urb_Rb_run 73 = .ok (.getfield 105, 3) := by decide +kernel
theorem dur_Rb_run_76 : decode urb_Rb_run 76 = .ok (.iload_n 1, 1) := by decide +kernel
theorem dur_Rb_run_77 : decode urb_Rb_run 77 = .ok (.isub, 1) := by decide +kernel
theorem dur_Rb_run_78 : decode urb_Rb_run 78 = .ok (.ireturn, 1) := by decide +kernel
theorem dur_Rb_waiting_0 : decode urb_Rb_waiting 0 = .ok (.aload_n 0, 1) := by decide +kernel
theorem dur_Rb_waiting_1 : decode urb_Rb_waiting 1 = .ok (.getfield 46, 3) := by decide +kernel
theorem dur_Rb_waiting_4 : decode urb_Rb_waiting 4 = .ok (.ireturn, 1) := by decide +kernel
theorem dur_Rb_about_0 : decode urb_Rb_about 0 = .ok (.aload_n 0, 1) := by decide +kernel
theorem dur_Rb_about_1 : decode urb_Rb_about 1 = .ok (.getfield 39, 3) := by decide +kernel
theorem dur_Rb_about_4 : decode urb_Rb_about 4 = .ok (.iload_n 1, 1) := by decide +kernel
theorem dur_Rb_about_5 : decode urb_Rb_about 5 = .ok (.invokevirtual 119, 3) := by decide +kernel
theorem dur_Rb_about_8 : decode urb_Rb_about 8 = .ok (.ifCond .ne 5, 3) := by decide +kernel
theorem dur_Rb_about_11 : decode urb_Rb_about 11 = .ok (.iconst (-1), 1) := by decide +kernel
theorem dur_Rb_about_12 : decode urb_Rb_about 12 = .ok (.ireturn, 1) := by decide +kernel
theorem dur_Rb_about_13 : decode urb_Rb_about 13 = .ok (.iload_n 2, 1) := by decide +kernel
theorem dur_Rb_about_14 : decode urb_Rb_about 14 = .ok (.tableswitch 92 0 4 #[34, 44, 54, 64, 74], 34) := by decide +kernel
theorem dur_Rb_about_48 : decode urb_Rb_about 48 = .ok (.aload_n 0, 1) := by decide +kernel
theorem dur_Rb_about_49 : decode urb_Rb_about 49 = .ok (.getfield 39, 3) := by decide +kernel
theorem dur_Rb_about_52 : decode urb_Rb_about 52 = .ok (.getfield 120, 3) := by decide +kernel
theorem dur_Rb_about_55 : decode urb_Rb_about 55 = .ok (.iload_n 1, 1) := by decide +kernel
theorem dur_Rb_about_56 : decode urb_Rb_about 56 = .ok (.iaload, 1) := by decide +kernel
theorem dur_Rb_about_57 : decode urb_Rb_about 57 = .ok (.ireturn, 1) := by decide +kernel
theorem dur_Rb_about_58 : decode urb_Rb_about 58 = .ok (.aload_n 0, 1) := by decide +kernel
theorem dur_Rb_about_59 : decode urb_Rb_about 59 = .ok (.getfield 39, 3) := by decide +kernel
theorem dur_Rb_about_62 : decode urb_Rb_about 62 = .ok (.getfield 123, 3) := by decide +kernel
theorem dur_Rb_about_65 : decode urb_Rb_about 65 = .ok (.iload_n 1, 1) := by decide +kernel
theorem dur_Rb_about_66 : decode urb_Rb_about 66 = .ok (.iaload, 1) := by decide +kernel
theorem dur_Rb_about_67 : decode urb_Rb_about 67 = .ok (.ireturn, 1) := by decide +kernel
theorem dur_Rb_about_68 : decode urb_Rb_about 68 = .ok (.aload_n 0, 1) := by decide +kernel
theorem dur_Rb_about_69 : decode urb_Rb_about 69 = .ok (.getfield 39, 3) := by decide +kernel
theorem dur_Rb_about_72 : decode urb_Rb_about 72 = .ok (.getfield 126, 3) := by decide +kernel
theorem dur_Rb_about_75 : decode urb_Rb_about 75 = .ok (.iload_n 1, 1) := by decide +kernel
theorem dur_Rb_about_76 : decode urb_Rb_about 76 = .ok (.iaload, 1) := by decide +kernel
theorem dur_Rb_about_77 : decode urb_Rb_about 77 = .ok (.ireturn, 1) := by decide +kernel
theorem dur_Rb_about_78 : decode urb_Rb_about 78 = .ok (.aload_n 0, 1) := by decide +kernel
theorem dur_Rb_about_79 : decode urb_Rb_about 79 = .ok (.getfield 39, 3) := by decide +kernel
theorem dur_Rb_about_82 : decode urb_Rb_about 82 = .ok (.getfield 129, 3) := by decide +kernel
theorem dur_Rb_about_85 : decode urb_Rb_about 85 = .ok (.iload_n 1, 1) := by decide +kernel
theorem dur_Rb_about_86 : decode urb_Rb_about 86 = .ok (.iaload, 1) := by decide +kernel
theorem dur_Rb_about_87 : decode urb_Rb_about 87 = .ok (.ireturn, 1) := by decide +kernel
theorem dur_Rb_about_88 : decode urb_Rb_about 88 = .ok (.aload_n 0, 1) := by decide +kernel
theorem dur_Rb_about_89 : decode urb_Rb_about 89 = .ok (.getfield 39, 3) := by decide +kernel
theorem dur_Rb_about_92 : decode urb_Rb_about 92 = .ok (.getfield 132, 3) := by decide +kernel
theorem dur_Rb_about_95 : decode urb_Rb_about 95 = .ok (.iload_n 1, 1) := by decide +kernel
theorem dur_Rb_about_96 : decode urb_Rb_about 96 = .ok (.baload, 1) := by decide +kernel
theorem dur_Rb_about_97 : decode urb_Rb_about 97 = .ok (.ifCond .eq 7, 3) := by decide +kernel
theorem dur_Rb_about_100 : decode urb_Rb_about 100 = .ok (.iconst 1, 1) := by decide +kernel
theorem dur_Rb_about_101 : decode urb_Rb_about 101 = .ok (.goto 4, 3) := by decide +kernel
theorem dur_Rb_about_104 : decode urb_Rb_about 104 = .ok (.iconst 0, 1) := by decide +kernel
theorem dur_Rb_about_105 : decode urb_Rb_about 105 = .ok (.ireturn, 1) := by decide +kernel
theorem dur_Rb_about_106 : decode urb_Rb_about 106 = .ok (.iconst (-1), 1) := by decide +kernel
theorem dur_Rb_about_107 : decode urb_Rb_about 107 = .ok (.ireturn, 1) := by decide +kernel
theorem dur_Rb_target_0 : decode urb_Rb_target 0 = .ok (.aload_n 0, 1) := by decide +kernel
theorem dur_Rb_target_1 : decode urb_Rb_target 1 = .ok (.getfield 39, 3) := by decide +kernel
theorem dur_Rb_target_4 : decode urb_Rb_target 4 = .ok (.iload_n 1, 1) := by decide +kernel
theorem dur_Rb_target_5 : decode urb_Rb_target 5 = .ok (.invokevirtual 119, 3) := by decide +kernel
theorem dur_Rb_target_8 : decode urb_Rb_target 8 = .ok (.ifCond .eq 14, 3) := by decide +kernel
theorem dur_Rb_target_11 : decode urb_Rb_target 11 = .ok (.aload_n 0, 1) := by decide +kernel
theorem dur_Rb_target_12 : decode urb_Rb_target 12 = .ok (.getfield 25, 3) := by decide +kernel
theorem dur_Rb_target_15 : decode urb_Rb_target 15 = .ok (.iload_n 2, 1) := by decide +kernel
theorem dur_Rb_target_16 : decode urb_Rb_target 16 = .ok (.invokevirtual 57, 3) := by decide +kernel
theorem dur_Rb_target_19 : decode urb_Rb_target 19 = .ok (.ifCond .ne 5, 3) := by decide +kernel
theorem dur_Rb_target_22 : decode urb_Rb_target 22 = .ok (.iconst (-1), 1) := by decide +kernel
theorem dur_Rb_target_23 : decode urb_Rb_target 23 = .ok (.ireturn, 1) := by decide +kernel
theorem dur_Rb_target_24 : decode urb_Rb_target 24 = .ok (.aload_n 0, 1) := by decide +kernel
theorem dur_Rb_target_25 : decode urb_Rb_target 25 = .ok (.getfield 39, 3) := by decide +kernel
theorem dur_Rb_target_28 : decode urb_Rb_target 28 = .ok (.getfield 136, 3) := by decide +kernel
theorem dur_Rb_target_31 : decode urb_Rb_target 31 = .ok (.iload_n 1, 1) := by decide +kernel
theorem dur_Rb_target_32 : decode urb_Rb_target 32 = .ok (.aaload, 1) := by decide +kernel
theorem dur_Rb_target_33 : decode urb_Rb_target 33 = .ok (.iload_n 2, 1) := by decide +kernel
theorem dur_Rb_target_34 : decode urb_Rb_target 34 = .ok (.iaload, 1) := by decide +kernel
theorem dur_Rb_target_35 : decode urb_Rb_target 35 = .ok (.ireturn, 1) := by decide +kernel
theorem dur_Nm_moveUp_0 : decode urb_Nm_moveUp 0 = .ok (.iconst 0, 1) := by decide +kernel
theorem dur_Nm_moveUp_1 : decode urb_Nm_moveUp 1 = .ok (.istore_n 2, 1) := by decide +kernel
theorem dur_Nm_moveUp_2 : decode urb_Nm_moveUp 2 = .ok (.iconst 0, 1) := by decide +kernel
theorem dur_Nm_moveUp_3 : decode urb_Nm_moveUp 3 = .ok (.istore_n 3, 1) := by decide +kernel
theorem dur_Nm_moveUp_4 : decode urb_Nm_moveUp 4 = .ok (.iload_n 3, 1) := by decide +kernel
theorem dur_Nm_moveUp_5 : decode urb_Nm_moveUp 5 = .ok (.aload_n 0, 1) := by decide +kernel
theorem dur_Nm_moveUp_6 : decode urb_Nm_moveUp 6 = .ok (.getfield 9, 3) := by decide +kernel
theorem dur_Nm_moveUp_9 : decode urb_Nm_moveUp 9 = .ok (.if_icmp .ge 39, 3) := by decide +kernel
theorem dur_Nm_moveUp_12 : decode urb_Nm_moveUp 12 = .ok (.iload_n 3, 1) := by decide +kernel
theorem dur_Nm_moveUp_13 : decode urb_Nm_moveUp 13 = .ok (.aload_n 1, 1) := by decide +kernel
theorem dur_Nm_moveUp_14 : decode urb_Nm_moveUp 14 = .ok (.arraylength, 1) := by decide +kernel
theorem dur_Nm_moveUp_15 : decode urb_Nm_moveUp 15 = .ok (.if_icmp .ge 33, 3) := by decide +kernel
theorem dur_Nm_moveUp_18 : decode urb_Nm_moveUp 18 = .ok (.aload_n 1, 1) := by decide +kernel
theorem dur_Nm_moveUp_19 : decode urb_Nm_moveUp 19 = .ok (.iload_n 3, 1) := by decide +kernel
theorem dur_Nm_moveUp_20 : decode urb_Nm_moveUp 20 = .ok (.iaload, 1) := by decide +kernel
theorem dur_Nm_moveUp_21 : decode urb_Nm_moveUp 21 = .ok (.aload_n 0, 1) := by decide +kernel
theorem dur_Nm_moveUp_22 : decode urb_Nm_moveUp 22 = .ok (.getfield 22, 3) := by decide +kernel
theorem dur_Nm_moveUp_25 : decode urb_Nm_moveUp 25 = .ok (.iload_n 3, 1) := by decide +kernel
theorem dur_Nm_moveUp_26 : decode urb_Nm_moveUp 26 = .ok (.iaload, 1) := by decide +kernel
theorem dur_Nm_moveUp_27 : decode urb_Nm_moveUp 27 = .ok (.if_icmp .le 15, 3) := by decide +kernel
theorem dur_Nm_moveUp_30 : decode urb_Nm_moveUp 30 = .ok (.aload_n 0, 1) := by decide +kernel
theorem dur_Nm_moveUp_31 : decode urb_Nm_moveUp 31 = .ok (.getfield 22, 3) := by decide +kernel
theorem dur_Nm_moveUp_34 : decode urb_Nm_moveUp 34 = .ok (.iload_n 3, 1) := by decide +kernel
theorem dur_Nm_moveUp_35 : decode urb_Nm_moveUp 35 = .ok (.aload_n 1, 1) := by decide +kernel
theorem dur_Nm_moveUp_36 : decode urb_Nm_moveUp 36 = .ok (.iload_n 3, 1) := by decide +kernel
theorem dur_Nm_moveUp_37 : decode urb_Nm_moveUp 37 = .ok (.iaload, 1) := by decide +kernel
theorem dur_Nm_moveUp_38 : decode urb_Nm_moveUp 38 = .ok (.iastore, 1) := by decide +kernel
theorem dur_Nm_moveUp_39 : decode urb_Nm_moveUp 39 = .ok (.iinc 2 1, 3) := by decide +kernel
theorem dur_Nm_moveUp_42 : decode urb_Nm_moveUp 42 = .ok (.iinc 3 1, 3) := by decide +kernel
theorem dur_Nm_moveUp_45 : decode urb_Nm_moveUp 45 = .ok (.goto (-41), 3) := by decide +kernel
theorem dur_Nm_moveUp_48 : decode urb_Nm_moveUp 48 = .ok (.iload_n 2, 1) := by decide +kernel
theorem dur_Nm_moveUp_49 : decode urb_Nm_moveUp 49 = .ok (.ireturn, 1) := by decide +kernel
theorem dur_Pr_overlap_0 : decode urb_Pr_overlap 0 = .ok (.iconst 0, 1) := by decide +kernel
theorem dur_Pr_overlap_1 : decode urb_Pr_overlap 1 = .ok (.istore_n 3, 1) := by decide +kernel
theorem dur_Pr_overlap_2 : decode urb_Pr_overlap 2 = .ok (.iload_n 3, 1) := by decide +kernel
theorem dur_Pr_overlap_3 : decode urb_Pr_overlap 3 = .ok (.bipush 12, 2) := by decide +kernel
theorem dur_Pr_overlap_5 : decode urb_Pr_overlap 5 = .ok (.if_icmp .ge 35, 3) := by decide +kernel
theorem dur_Pr_overlap_8 : decode urb_Pr_overlap 8 = .ok (.aload_n 0, 1) := by decide +kernel
theorem dur_Pr_overlap_9 : decode urb_Pr_overlap 9 = .ok (.getfield 34, 3) := by decide +kernel
theorem dur_Pr_overlap_12 : decode urb_Pr_overlap 12 = .ok (.iload_n 1, 1) := by decide +kernel
theorem dur_Pr_overlap_13 : decode urb_Pr_overlap 13 = .ok (.aaload, 1) := by decide +kernel
theorem dur_Pr_overlap_14 : decode urb_Pr_overlap 14 = .ok (.iload_n 3, 1) := by decide +kernel
theorem dur_Pr_overlap_15 : decode urb_Pr_overlap 15 = .ok (.iaload, 1) := by decide +kernel
theorem dur_Pr_overlap_16 : decode urb_Pr_overlap 16 = .ok (.iconst (-1), 1) := by decide +kernel
theorem dur_Pr_overlap_17 : decode urb_Pr_overlap 17 = .ok (.if_icmp .eq 17, 3) := by decide +kernel
theorem dur_Pr_overlap_20 : decode urb_Pr_overlap 20 = .ok (.aload_n 0, 1) := by decide +kernel
theorem dur_Pr_overlap_21 : decode urb_Pr_overlap 21 = .ok (.getfield 34, 3) := by decide +kernel
theorem dur_Pr_overlap_24 : decode urb_Pr_overlap 24 = .ok (.iload_n 2, 1) := by decide +kernel
theorem dur_Pr_overlap_25 : decode urb_Pr_overlap 25 = .ok (.aaload, 1) := by decide +kernel
theorem dur_Pr_overlap_26 : decode urb_Pr_overlap 26 = .ok (.iload_n 3, 1) := by decide +kernel
theorem dur_Pr_overlap_27 : decode urb_Pr_overlap 27 = .ok (.iaload, 1) := by decide +kernel
theorem dur_Pr_overlap_28 : decode urb_Pr_overlap 28 = .ok (.iconst (-1), 1) := by decide +kernel
theorem dur_Pr_overlap_29 : decode urb_Pr_overlap 29 = .ok (.if_icmp .eq 5, 3) := by decide +kernel
theorem dur_Pr_overlap_32 : decode urb_Pr_overlap 32 = .ok (.iconst 1, 1) := by decide +kernel
theorem dur_Pr_overlap_33 : decode urb_Pr_overlap 33 = .ok (.ireturn, 1) := by decide +kernel
theorem dur_Pr_overlap_34 : decode urb_Pr_overlap 34 = .ok (.iinc 3 1, 3) := by decide +kernel
theorem dur_Pr_overlap_37 : decode urb_Pr_overlap 37 = .ok (.goto (-35), 3) := by decide +kernel
theorem dur_Pr_overlap_40 : decode urb_Pr_overlap 40 = .ok (.iconst 0, 1) := by decide +kernel
theorem dur_Pr_overlap_41 : decode urb_Pr_overlap 41 = .ok (.ireturn, 1) := by decide +kernel
theorem dur_Rb_redo_0 : decode urb_Rb_redo 0 = .ok (.aload_n 0, 1) := by decide +kernel
theorem dur_Rb_redo_1 : decode urb_Rb_redo 1 = .ok (.getfield 39, 3) := by decide +kernel
theorem dur_Rb_redo_4 : decode urb_Rb_redo 4 = .ok (.getfield 123, 3) := by decide +kernel
theorem dur_Rb_redo_7 : decode urb_Rb_redo 7 = .ok (.iload_n 1, 1) := by decide +kernel
theorem dur_Rb_redo_8 : decode urb_Rb_redo 8 = .ok (.iaload, 1) := by decide +kernel
theorem dur_Rb_redo_9 : decode urb_Rb_redo 9 = .ok (.istore_n 2, 1) := by decide +kernel
theorem dur_Rb_redo_10 : decode urb_Rb_redo 10 = .ok (.aload_n 0, 1) := by decide +kernel
theorem dur_Rb_redo_11 : decode urb_Rb_redo 11 = .ok (.getfield 25, 3) := by decide +kernel
theorem dur_Rb_redo_14 : decode urb_Rb_redo 14 = .ok (.iload_n 2, 1) := by decide +kernel
theorem dur_Rb_redo_15 : decode urb_Rb_redo 15 = .ok (.invokevirtual 96, 3) := by decide +kernel
theorem dur_Rb_redo_18 : decode urb_Rb_redo 18 = .ok (.ifCond .eq 49, 3) := by decide +kernel
theorem dur_Rb_redo_21 : decode urb_Rb_redo 21 = .ok (.aload_n 0, 1) := by decide +kernel
theorem dur_Rb_redo_22 : decode urb_Rb_redo 22 = .ok (.getfield 32, 3) := by decide +kernel
theorem dur_Rb_redo_25 : decode urb_Rb_redo 25 = .ok (.aload_n 0, 1) := by decide +kernel
theorem dur_Rb_redo_26 : decode urb_Rb_redo 26 = .ok (.getfield 25, 3) := by decide +kernel
theorem dur_Rb_redo_29 : decode urb_Rb_redo 29 = .ok (.iload_n 2, 1) := by decide +kernel
theorem dur_Rb_redo_30 : decode urb_Rb_redo 30 = .ok (.invokevirtual 99, 3) := by decide +kernel
theorem dur_Rb_redo_33 : decode urb_Rb_redo 33 = .ok (.ifCond .le 34, 3) := by decide +kernel
theorem dur_Rb_redo_36 : decode urb_Rb_redo 36 = .ok (.aload_n 0, 1) := by decide +kernel
theorem dur_Rb_redo_37 : decode urb_Rb_redo 37 = .ok (.getfield 39, 3) := by decide +kernel
theorem dur_Rb_redo_40 : decode urb_Rb_redo 40 = .ok (.iload_n 1, 1) := by decide +kernel
theorem dur_Rb_redo_41 : decode urb_Rb_redo 41 = .ok (.aload_n 0, 1) := by decide +kernel
theorem dur_Rb_redo_42 : decode urb_Rb_redo 42 = .ok (.getfield 32, 3) := by decide +kernel
theorem dur_Rb_redo_45 : decode urb_Rb_redo 45 = .ok (.getfield 165, 3) := by decide +kernel
theorem dur_Rb_redo_48 : decode urb_Rb_redo 48 = .ok (.invokevirtual 193, 3) := by decide +kernel
theorem dur_Rb_redo_51 : decode urb_Rb_redo 51 = .ok (.aload_n 0, 1) := by decide +kernel
theorem dur_Rb_redo_52 : decode urb_Rb_redo 52 = .ok (.getfield 39, 3) := by decide +kernel
theorem dur_Rb_redo_55 : decode urb_Rb_redo 55 = .ok (.getfield 126, 3) := by decide +kernel
theorem dur_Rb_redo_58 : decode urb_Rb_redo 58 = .ok (.iload_n 1, 1) := by decide +kernel
theorem dur_Rb_redo_59 : decode urb_Rb_redo 59 = .ok (.dup2, 1) := by decide +kernel
theorem dur_Rb_redo_60 : decode urb_Rb_redo 60 = .ok (.iaload, 1) := by decide +kernel
theorem dur_Rb_redo_61 : decode urb_Rb_redo 61 = .ok (.iconst 1, 1) := by decide +kernel
theorem dur_Rb_redo_62 : decode urb_Rb_redo 62 = .ok (.iadd, 1) := by decide +kernel
theorem dur_Rb_redo_63 : decode urb_Rb_redo 63 = .ok (.iastore, 1) := by decide +kernel
theorem dur_Rb_redo_64 : decode urb_Rb_redo 64 = .ok (.goto 13, 3) := by decide +kernel
theorem dur_Rb_redo_67 : decode urb_Rb_redo 67 = .ok (.aload_n 0, 1) := by decide +kernel
theorem dur_Rb_redo_68 : decode urb_Rb_redo 68 = .ok (.getfield 39, 3) := by decide +kernel
theorem dur_Rb_redo_71 : decode urb_Rb_redo 71 = .ok (.getfield 120, 3) := by decide +kernel
theorem dur_Rb_redo_74 : decode urb_Rb_redo 74 = .ok (.iload_n 1, 1) := by decide +kernel
theorem dur_Rb_redo_75 : decode urb_Rb_redo 75 = .ok (.iconst 3, 1) := by decide +kernel
theorem dur_Rb_redo_76 : decode urb_Rb_redo 76 = .ok (.iastore, 1) := by decide +kernel
theorem dur_Rb_redo_77 : decode urb_Rb_redo 77 = .ok (.return_, 1) := by decide +kernel
theorem dur_Rb_redoAllTouchedBy_0 : decode urb_Rb_redoAllTouchedBy 0 = .ok (.iconst 0, 1) := by decide +kernel
theorem dur_Rb_redoAllTouchedBy_1 : decode urb_Rb_redoAllTouchedBy 1 = .ok (.istore_n 2, 1) := by decide +kernel
theorem dur_Rb_redoAllTouchedBy_2 : decode urb_Rb_redoAllTouchedBy 2 = .ok (.iload_n 2, 1) := by decide +kernel
theorem dur_Rb_redoAllTouchedBy_3 : decode urb_Rb_redoAllTouchedBy 3 = .ok (.aload_n 0, 1) := by decide +kernel
theorem dur_Rb_redoAllTouchedBy_4 : decode urb_Rb_redoAllTouchedBy 4 = .ok (.getfield 39, 3) := by decide +kernel
theorem dur_Rb_redoAllTouchedBy_7 : decode urb_Rb_redoAllTouchedBy 7 = .ok (.getfield 105, 3) := by decide +kernel
theorem dur_Rb_redoAllTouchedBy_10 : decode urb_Rb_redoAllTouchedBy 10 = .ok (.if_icmp .ge 37, 3) := by decide +kernel
theorem dur_Rb_redoAllTouchedBy_13 : decode urb_Rb_redoAllTouchedBy 13 = .ok (.aload_n 0, 1) := by decide +kernel
theorem dur_Rb_redoAllTouchedBy_14 : decode urb_Rb_redoAllTouchedBy 14 = .ok (.getfield 39, 3) := by decide +kernel
theorem dur_Rb_redoAllTouchedBy_17 : decode urb_Rb_redoAllTouchedBy 17 = .ok (.iload_n 2, 1) := by decide +kernel
theorem dur_Rb_redoAllTouchedBy_18 : decode urb_Rb_redoAllTouchedBy 18 = .ok (.invokevirtual 139, 3) := by decide +kernel
theorem dur_Rb_redoAllTouchedBy_21 : decode urb_Rb_redoAllTouchedBy 21 = .ok (.ifCond .eq 20, 3) := by decide +kernel
theorem dur_Rb_redoAllTouchedBy_24 : decode urb_Rb_redoAllTouchedBy 24 = .ok (.aload_n 0, 1) := by decide +kernel
theorem dur_Rb_redoAllTouchedBy_25 : decode urb_Rb_redoAllTouchedBy 25 = .ok (.getfield 39, 3) := by decide +kernel
theorem dur_Rb_redoAllTouchedBy_28 : decode urb_Rb_redoAllTouchedBy 28 = .ok (.iload_n 2, 1) := by decide +kernel
theorem dur_Rb_redoAllTouchedBy_29 : decode urb_Rb_redoAllTouchedBy 29 = .ok (.iload_n 1, 1) := by decide +kernel
theorem dur_Rb_redoAllTouchedBy_30 : decode urb_Rb_redoAllTouchedBy 30 = .ok (.invokevirtual 187, 3) := by decide +kernel
theorem dur_Rb_redoAllTouchedBy_33 : decode urb_Rb_redoAllTouchedBy 33 = .ok (.ifCond .eq 8, 3) := by decide +kernel
theorem dur_Rb_redoAllTouchedBy_36 : decode urb_Rb_redoAllTouchedBy 36 = .ok (.aload_n 0, 1) := by decide +kernel
theorem dur_Rb_redoAllTouchedBy_37 : decode urb_Rb_redoAllTouchedBy 37 = .ok (.iload_n 2, 1) := by decide +kernel
theorem dur_Rb_redoAllTouchedBy_38 : decode urb_Rb_redoAllTouchedBy 38 = .ok (.invokevirtual 190, 3) := by decide +kernel
theorem dur_Rb_redoAllTouchedBy_41 : decode urb_Rb_redoAllTouchedBy 41 = .ok (.iinc 2 1, 3) := by decide +kernel
theorem dur_Rb_redoAllTouchedBy_44 : decode urb_Rb_redoAllTouchedBy 44 = .ok (.goto (-42), 3) := by decide +kernel
theorem dur_Rb_redoAllTouchedBy_47 : decode urb_Rb_redoAllTouchedBy 47 = .ok (.return_, 1) := by decide +kernel
theorem dur_Rb_pass_0 : decode urb_Rb_pass 0 = .ok (.aload_n 0, 1) := by decide +kernel
theorem dur_Rb_pass_1 : decode urb_Rb_pass 1 = .ok (.getfield 39, 3) := by decide +kernel
theorem dur_Rb_pass_4 : decode urb_Rb_pass 4 = .ok (.iload_n 1, 1) := by decide +kernel
theorem dur_Rb_pass_5 : decode urb_Rb_pass 5 = .ok (.invokevirtual 139, 3) := by decide +kernel
theorem dur_Rb_pass_8 : decode urb_Rb_pass 8 = .ok (.ifCond .ne 5, 3) := by decide +kernel
theorem dur_Rb_pass_11 : decode urb_Rb_pass 11 = .ok (.iconst (-1), 1) := by decide +kernel
theorem dur_Rb_pass_12 : decode urb_Rb_pass 12 = .ok (.ireturn, 1) := by decide +kernel
theorem dur_Rb_pass_13 : decode urb_Rb_pass 13 = .ok (.iload_n 2, 1) := by decide +kernel
theorem dur_Rb_pass_14 : decode urb_Rb_pass 14 = .ok (.ifCond .ne 15, 3) := by decide +kernel
theorem dur_Rb_pass_17 : decode urb_Rb_pass 17 = .ok (.aload_n 0, 1) := by decide +kernel
theorem dur_Rb_pass_18 : decode urb_Rb_pass 18 = .ok (.getfield 39, 3) := by decide +kernel
theorem dur_Rb_pass_21 : decode urb_Rb_pass 21 = .ok (.getfield 120, 3) := by decide +kernel
theorem dur_Rb_pass_24 : decode urb_Rb_pass 24 = .ok (.iload_n 1, 1) := by decide +kernel
theorem dur_Rb_pass_25 : decode urb_Rb_pass 25 = .ok (.iconst 4, 1) := by decide +kernel
theorem dur_Rb_pass_26 : decode urb_Rb_pass 26 = .ok (.iastore, 1) := by decide +kernel
theorem dur_Rb_pass_27 : decode urb_Rb_pass 27 = .ok (.iconst 0, 1) := by decide +kernel
theorem dur_Rb_pass_28 : decode urb_Rb_pass 28 = .ok (.ireturn, 1) := by decide +kernel
theorem dur_Rb_pass_29 : decode urb_Rb_pass 29 = .ok (.aload_n 0, 1) := by decide +kernel
theorem dur_Rb_pass_30 : decode urb_Rb_pass 30 = .ok (.getfield 39, 3) := by decide +kernel
theorem dur_Rb_pass_33 : decode urb_Rb_pass 33 = .ok (.getfield 120, 3) := by decide +kernel
theorem dur_Rb_pass_36 : decode urb_Rb_pass 36 = .ok (.iload_n 1, 1) := by decide +kernel
theorem dur_Rb_pass_37 : decode urb_Rb_pass 37 = .ok (.iconst 1, 1) := by decide +kernel
theorem dur_Rb_pass_38 : decode urb_Rb_pass 38 = .ok (.iastore, 1) := by decide +kernel
theorem dur_Rb_pass_39 : decode urb_Rb_pass 39 = .ok (.aload_n 0, 1) := by decide +kernel
theorem dur_Rb_pass_40 : decode urb_Rb_pass 40 = .ok (.getfield 25, 3) := by decide +kernel
theorem dur_Rb_pass_43 : decode urb_Rb_pass 43 = .ok (.aload_n 0, 1) := by decide +kernel
theorem dur_Rb_pass_44 : decode urb_Rb_pass 44 = .ok (.getfield 39, 3) := by decide +kernel
theorem dur_Rb_pass_47 : decode urb_Rb_pass 47 = .ok (.getfield 136, 3) := by decide +kernel
theorem dur_Rb_pass_50 : decode urb_Rb_pass 50 = .ok (.iload_n 1, 1) := by decide +kernel
theorem dur_Rb_pass_51 : decode urb_Rb_pass 51 = .ok (.aaload, 1) := by decide +kernel
theorem dur_Rb_pass_52 : decode urb_Rb_pass 52 = .ok (.invokevirtual 142, 3) := by decide +kernel
theorem dur_Rb_pass_55 : decode urb_Rb_pass 55 = .ok (.istore_n 3, 1) := by decide +kernel
theorem dur_Rb_pass_56 : decode urb_Rb_pass 56 = .ok (.aload_n 0, 1) := by decide +kernel
theorem dur_Rb_pass_57 : decode urb_Rb_pass 57 = .ok (.iload_n 1, 1) := by decide +kernel
theorem dur_Rb_pass_58 : decode urb_Rb_pass 58 = .ok (.invokevirtual 146, 3) := by decide +kernel
theorem dur_Rb_pass_61 : decode urb_Rb_pass 61 = .ok (.iload_n 3, 1) := by decide +kernel
theorem dur_Rb_pass_62 : decode urb_Rb_pass 62 = .ok (.ireturn, 1) := by decide +kernel
theorem dur_Rb_open_0 : decode urb_Rb_open 0 = .ok (.iload_n 1, 1) := by decide +kernel
theorem dur_Rb_open_1 : decode urb_Rb_open 1 = .ok (.invokestatic 49, 3) := by decide +kernel
theorem dur_Rb_open_4 : decode urb_Rb_open 4 = .ok (.ifCond .eq 11, 3) := by decide +kernel
theorem dur_Rb_open_7 : decode urb_Rb_open 7 = .ok (.aload_n 0, 1) := by decide +kernel
theorem dur_Rb_open_8 : decode urb_Rb_open 8 = .ok (.iload_n 1, 1) := by decide +kernel
theorem dur_Rb_open_9 : decode urb_Rb_open 9 = .ok (.invokevirtual 149, 3) := by decide +kernel
theorem dur_Rb_open_12 : decode urb_Rb_open 12 = .ok (.goto 4, 3) := by decide +kernel
theorem dur_Rb_open_15 : decode urb_Rb_open 15 = .ok (.iconst (-1), 1) := by decide +kernel
theorem dur_Rb_open_16 : decode urb_Rb_open 16 = .ok (.ireturn, 1) := by decide +kernel
theorem dur_Nm_init_0 : decode urb_Nm_init 0 = .ok (.aload_n 0, 1) := by decide +kernel
theorem dur_Nm_init_1 : decode urb_Nm_init 1 = .ok (.invokespecial 3, 3) := by decide +kernel
theorem dur_Nm_init_4 : decode urb_Nm_init 4 = .ok (.aload_n 0, 1) := by decide +kernel
theorem dur_Nm_init_5 : decode urb_Nm_init 5 = .ok (.iconst 0, 1) := by decide +kernel
theorem dur_Nm_init_6 : decode urb_Nm_init 6 = .ok (.putfield 9, 3) := by decide +kernel
theorem dur_Nm_init_9 : decode urb_Nm_init 9 = .ok (.aload_n 0, 1) := by decide +kernel
theorem dur_Nm_init_10 : decode urb_Nm_init 10 = .ok (.bipush 12, 2) := by decide +kernel
theorem dur_Nm_init_12 : decode urb_Nm_init 12 = .ok (.newarray .int, 2) := by decide +kernel
theorem dur_Nm_init_14 : decode urb_Nm_init 14 = .ok (.putfield 15, 3) := by decide +kernel
theorem dur_Nm_init_17 : decode urb_Nm_init 17 = .ok (.aload_n 0, 1) := by decide +kernel
theorem dur_Nm_init_18 : decode urb_Nm_init 18 = .ok (.bipush 12, 2) := by decide +kernel
theorem dur_Nm_init_20 : decode urb_Nm_init 20 = .ok (.newarray .int, 2) := by decide +kernel
theorem dur_Nm_init_22 : decode urb_Nm_init 22 = .ok (.putfield 19, 3) := by decide +kernel
theorem dur_Nm_init_25 : decode urb_Nm_init 25 = .ok (.aload_n 0, 1) := by decide +kernel
theorem dur_Nm_init_26 : decode urb_Nm_init 26 = .ok (.bipush 12, 2) := by decide +kernel
theorem dur_Nm_init_28 : decode urb_Nm_init 28 = .ok (.newarray .int, 2) := by decide +kernel
theorem dur_Nm_init_30 : decode urb_Nm_init 30 = .ok (.putfield 22, 3) := by decide +kernel
theorem dur_Nm_init_33 : decode urb_Nm_init 33 = .ok (.aload_n 0, 1) := by decide +kernel
theorem dur_Nm_init_34 : decode urb_Nm_init 34 = .ok (.bipush 12, 2) := by decide +kernel
theorem dur_Nm_init_36 : decode urb_Nm_init 36 = .ok (.newarray .int, 2) := by decide +kernel
theorem dur_Nm_init_38 : decode urb_Nm_init 38 = .ok (.putfield 25, 3) := by decide +kernel
theorem dur_Nm_init_41 : decode urb_Nm_init 41 = .ok (.aload_n 0, 1) := by decide +kernel
theorem dur_Nm_init_42 : decode urb_Nm_init 42 = .ok (.bipush 12, 2) := by decide +kernel
theorem dur_Nm_init_44 : decode urb_Nm_init 44 = .ok (.newarray .int, 2) := by decide +kernel
theorem dur_Nm_init_46 : decode urb_Nm_init 46 = .ok (.putfield 28, 3) := by decide +kernel
theorem dur_Nm_init_49 : decode urb_Nm_init 49 = .ok (.aload_n 0, 1) := by decide +kernel
theorem dur_Nm_init_50 : decode urb_Nm_init 50 = .ok (.bipush 12, 2) := by decide +kernel
theorem dur_Nm_init_52 : decode urb_Nm_init 52 = .ok (.newarray .int, 2) := by decide +kernel
theorem dur_Nm_init_54 : decode urb_Nm_init 54 = .ok (.putfield 31, 3) := by decide +kernel
theorem dur_Nm_init_57 : decode urb_Nm_init 57 = .ok (.aload_n 0, 1) := by decide +kernel
theorem dur_Nm_init_58 : decode urb_Nm_init 58 = .ok (.bipush 12, 2) := by decide +kernel
theorem dur_Nm_init_60 : decode urb_Nm_init 60 = .ok (.newarray .int, 2) := by decide +kernel
theorem dur_Nm_init_62 : decode urb_Nm_init 62 = .ok (.putfield 34, 3) := by decide +kernel
theorem dur_Nm_init_65 : decode urb_Nm_init 65 = .ok (.aload_n 0, 1) := by decide +kernel
theorem dur_Nm_init_66 : decode urb_Nm_init 66 = .ok (.bipush 12, 2) := by decide +kernel
theorem dur_Nm_init_68 : decode urb_Nm_init 68 = .ok (.newarray .int, 2) := by decide +kernel
theorem dur_Nm_init_70 : decode urb_Nm_init 70 = .ok (.putfield 37, 3) := by decide +kernel
theorem dur_Nm_init_73 : decode urb_Nm_init 73 = .ok (.aload_n 0, 1) := by decide +kernel
theorem dur_Nm_init_74 : decode urb_Nm_init 74 = .ok (.bipush 12, 2) := by decide +kernel
theorem dur_Nm_init_76 : decode urb_Nm_init 76 = .ok (.bipush 8, 2) := by decide +kernel
theorem dur_Nm_init_78 : decode urb_Nm_init 78 = .ok (.multianewarray 40 2, 4) := by decide +kernel
theorem dur_Nm_init_82 : decode urb_Nm_init 82 = .ok (.putfield 42, 3) := by decide +kernel
theorem dur_Nm_init_85 : decode urb_Nm_init 85 = .ok (.aload_n 0, 1) := by decide +kernel
theorem dur_Nm_init_86 : decode urb_Nm_init 86 = .ok (.bipush 12, 2) := by decide +kernel
theorem dur_Nm_init_88 : decode urb_Nm_init 88 = .ok (.bipush 8, 2) := by decide +kernel
theorem dur_Nm_init_90 : decode urb_Nm_init 90 = .ok (.multianewarray 40 2, 4) := by decide +kernel
theorem dur_Nm_init_94 : decode urb_Nm_init 94 = .ok (.putfield 45, 3) := by decide +kernel
theorem dur_Nm_init_97 : decode urb_Nm_init 97 = .ok (.aload_n 0, 1) := by decide +kernel
theorem dur_Nm_init_98 : decode urb_Nm_init 98 = .ok (.bipush 12, 2) := by decide +kernel
theorem dur_Nm_init_100 : decode urb_Nm_init 100 = .ok (.bipush 8, 2) := by decide +kernel
theorem dur_Nm_init_102 : decode urb_Nm_init 102 = .ok (.multianewarray 40 2, 4) := by decide +kernel
theorem dur_Nm_init_106 : decode urb_Nm_init 106 = .ok (.putfield 48, 3) := by decide +kernel
theorem dur_Nm_init_109 : decode urb_Nm_init 109 = .ok (.return_, 1) := by decide +kernel
theorem dur_So_init_0 : decode urb_So_init 0 = .ok (.aload_n 0, 1) := by decide +kernel
theorem dur_So_init_1 : decode urb_So_init 1 = .ok (.invokespecial 3, 3) := by decide +kernel
theorem dur_So_init_4 : decode urb_So_init 4 = .ok (.aload_n 0, 1) := by decide +kernel
theorem dur_So_init_5 : decode urb_So_init 5 = .ok (.bipush 12, 2) := by decide +kernel
theorem dur_So_init_7 : decode urb_So_init 7 = .ok (.newarray .int, 2) := by decide +kernel
theorem dur_So_init_9 : decode urb_So_init 9 = .ok (.putfield 9, 3) := by decide +kernel
theorem dur_So_init_12 : decode urb_So_init 12 = .ok (.aload_n 0, 1) := by decide +kernel
theorem dur_So_init_13 : decode urb_So_init 13 = .ok (.bipush 12, 2) := by decide +kernel
theorem dur_So_init_15 : decode urb_So_init 15 = .ok (.newarray .int, 2) := by decide +kernel
theorem dur_So_init_17 : decode urb_So_init 17 = .ok (.putfield 15, 3) := by decide +kernel
theorem dur_So_init_20 : decode urb_So_init 20 = .ok (.return_, 1) := by decide +kernel
theorem dur_Pr_init_0 : decode urb_Pr_init 0 = .ok (.aload_n 0, 1) := by decide +kernel
theorem dur_Pr_init_1 : decode urb_Pr_init 1 = .ok (.invokespecial 3, 3) := by decide +kernel
theorem dur_Pr_init_4 : decode urb_Pr_init 4 = .ok (.aload_n 0, 1) := by decide +kernel
theorem dur_Pr_init_5 : decode urb_Pr_init 5 = .ok (.iconst 0, 1) := by decide +kernel
theorem dur_Pr_init_6 : decode urb_Pr_init 6 = .ok (.putfield 9, 3) := by decide +kernel
theorem dur_Pr_init_9 : decode urb_Pr_init 9 = .ok (.aload_n 0, 1) := by decide +kernel
theorem dur_Pr_init_10 : decode urb_Pr_init 10 = .ok (.bipush 60, 2) := by decide +kernel
theorem dur_Pr_init_12 : decode urb_Pr_init 12 = .ok (.newarray .int, 2) := by decide +kernel
theorem dur_Pr_init_14 : decode urb_Pr_init 14 = .ok (.putfield 15, 3) := by decide +kernel
theorem dur_Pr_init_17 : decode urb_Pr_init 17 = .ok (.aload_n 0, 1) := by decide +kernel
theorem dur_Pr_init_18 : decode urb_Pr_init 18 = .ok (.bipush 60, 2) := by decide +kernel
theorem dur_Pr_init_20 : decode urb_Pr_init 20 = .ok (.newarray .int, 2) := by decide +kernel
theorem dur_Pr_init_22 : decode urb_Pr_init 22 = .ok (.putfield 19, 3) := by decide +kernel
end
section
theorem dur_Pr_init_25 : decode urb_Pr_init 25 = .ok (.aload_n 0, 1) := by decide +kernel
theorem dur_Pr_init_26 : decode urb_Pr_init 26 = .ok (.bipush 60, 2) := by decide +kernel
theorem dur_Pr_init_28 : decode urb_Pr_init 28 = .ok (.newarray .int, 2) := by decide +kernel
theorem dur_Pr_init_30 : decode urb_Pr_init 30 = .ok (.putfield 22, 3) := by decide +kernel
theorem dur_Pr_init_33 : decode urb_Pr_init 33 = .ok (.aload_n 0, 1) := by decide +kernel
theorem dur_Pr_init_34 : decode urb_Pr_init 34 = .ok (.bipush 60, 2) := by decide +kernel
theorem dur_Pr_init_36 : decode urb_Pr_init 36 = .ok (.newarray .int, 2) := by decide +kernel
theorem dur_Pr_init_38 : decode urb_Pr_init 38 = .ok (.putfield 25, 3) := by decide +kernel
theorem dur_Pr_init_41 : decode urb_Pr_init 41 = .ok (.aload_n 0, 1) := by decide +kernel
theorem dur_Pr_init_42 : decode urb_Pr_init 42 = .ok (.bipush 60, 2) := by decide +kernel
theorem dur_Pr_init_44 : decode urb_Pr_init 44 = .ok (.newarray .boolean, 2) := by decide +kernel
theorem dur_Pr_init_46 : decode urb_Pr_init 46 = .ok (.putfield 28, 3) := by decide +kernel
theorem dur_Pr_init_49 : decode urb_Pr_init 49 = .ok (.aload_n 0, 1) := by decide +kernel
theorem dur_Pr_init_50 : decode urb_Pr_init 50 = .ok (.bipush 60, 2) := by decide +kernel
theorem dur_Pr_init_52 : decode urb_Pr_init 52 = .ok (.bipush 12, 2) := by decide +kernel
theorem dur_Pr_init_54 : decode urb_Pr_init 54 = .ok (.multianewarray 32 2, 4) := by decide +kernel
theorem dur_Pr_init_58 : decode urb_Pr_init 58 = .ok (.putfield 34, 3) := by decide +kernel
theorem dur_Pr_init_61 : decode urb_Pr_init 61 = .ok (.return_, 1) := by decide +kernel
theorem dur_Rb_init_0 : decode urb_Rb_init 0 = .ok (.aload_n 0, 1) := by decide +kernel
theorem dur_Rb_init_1 : decode urb_Rb_init 1 = .ok (.invokespecial 1, 3) := by decide +kernel
theorem dur_Rb_init_4 : decode urb_Rb_init 4 = .ok (.aload_n 0, 1) := by decide +kernel
theorem dur_Rb_init_5 : decode urb_Rb_init 5 = .ok (.iconst 0, 1) := by decide +kernel
theorem dur_Rb_init_6 : decode urb_Rb_init 6 = .ok (.bipush 20, 2) := by decide +kernel
theorem dur_Rb_init_8 : decode urb_Rb_init 8 = .ok (.iload_n 1, 1) := by decide +kernel
theorem dur_Rb_init_9 : decode urb_Rb_init 9 = .ok (.invokestatic 9, 3) := by decide +kernel
theorem dur_Rb_init_12 : decode urb_Rb_init 12 = .ok (.invokestatic 15, 3) := by decide +kernel
theorem dur_Rb_init_15 : decode urb_Rb_init 15 = .ok (.putfield 18, 3) := by decide +kernel
theorem dur_Rb_init_18 : decode urb_Rb_init 18 = .ok (.aload_n 0, 1) := by decide +kernel
theorem dur_Rb_init_19 : decode urb_Rb_init 19 = .ok (.new 22, 3) := by decide +kernel
theorem dur_Rb_init_22 : decode urb_Rb_init 22 = .ok (.dup, 1) := by decide +kernel
theorem dur_Rb_init_23 : decode urb_Rb_init 23 = .ok (.invokespecial 24, 3) := by decide +kernel
theorem dur_Rb_init_26 : decode urb_Rb_init 26 = .ok (.putfield 25, 3) := by decide +kernel
theorem dur_Rb_init_29 : decode urb_Rb_init 29 = .ok (.aload_n 0, 1) := by decide +kernel
theorem dur_Rb_init_30 : decode urb_Rb_init 30 = .ok (.new 29, 3) := by decide +kernel
theorem dur_Rb_init_33 : decode urb_Rb_init 33 = .ok (.dup, 1) := by decide +kernel
theorem dur_Rb_init_34 : decode urb_Rb_init 34 = .ok (.invokespecial 31, 3) := by decide +kernel
theorem dur_Rb_init_37 : decode urb_Rb_init 37 = .ok (.putfield 32, 3) := by decide +kernel
theorem dur_Rb_init_40 : decode urb_Rb_init 40 = .ok (.aload_n 0, 1) := by decide +kernel
theorem dur_Rb_init_41 : decode urb_Rb_init 41 = .ok (.new 36, 3) := by decide +kernel
theorem dur_Rb_init_44 : decode urb_Rb_init 44 = .ok (.dup, 1) := by decide +kernel
theorem dur_Rb_init_45 : decode urb_Rb_init 45 = .ok (.invokespecial 38, 3) := by decide +kernel
theorem dur_Rb_init_48 : decode urb_Rb_init 48 = .ok (.putfield 39, 3) := by decide +kernel
theorem dur_Rb_init_51 : decode urb_Rb_init 51 = .ok (.aload_n 0, 1) := by decide +kernel
theorem dur_Rb_init_52 : decode urb_Rb_init 52 = .ok (.iconst 0, 1) := by decide +kernel
theorem dur_Rb_init_53 : decode urb_Rb_init 53 = .ok (.putfield 43, 3) := by decide +kernel
theorem dur_Rb_init_56 : decode urb_Rb_init 56 = .ok (.aload_n 0, 1) := by decide +kernel
theorem dur_Rb_init_57 : decode urb_Rb_init 57 = .ok (.iconst 0, 1) := by decide +kernel
theorem dur_Rb_init_58 : decode urb_Rb_init 58 = .ok (.putfield 46, 3) := by decide +kernel
theorem dur_Rb_init_61 : decode urb_Rb_init 61 = .ok (.return_, 1) := by decide +kernel
theorem drf_Md_isName_0 : decode rfb_Md_isName 0 = .ok (.iload_n 1, 1) := by decide +kernel
theorem drf_Md_isName_1 : decode rfb_Md_isName 1 = .ok (.ifCond .lt 15, 3) := by decide +kernel
theorem drf_Md_isName_4 : decode rfb_Md_isName 4 = .ok (.iload_n 1, 1) := by decide +kernel
theorem drf_Md_isName_5 : decode rfb_Md_isName 5 = .ok (.aload_n 0, 1) := by decide +kernel
theorem drf_Md_isName_6 : decode rfb_Md_isName 6 = .ok (.getfield 71, 3) := by decide +kernel
theorem drf_Md_isName_9 : decode rfb_Md_isName 9 = .ok (.if_icmp .ge 7, 3) := by decide +kernel
theorem drf_Md_isName_12 : decode rfb_Md_isName 12 = .ok (.iconst 1, 1) := by decide +kernel
theorem drf_Md_isName_13 : decode rfb_Md_isName 13 = .ok (.goto 4, 3) := by decide +kernel
theorem drf_Md_isName_16 : decode rfb_Md_isName 16 = .ok (.iconst 0, 1) := by decide +kernel
theorem drf_Md_isName_17 : decode rfb_Md_isName 17 = .ok (.ireturn, 1) := by decide +kernel
theorem drf_Md_name_0 : decode rfb_Md_name 0 = .ok (.aload_n 0, 1) := by decide +kernel
theorem drf_Md_name_1 : decode rfb_Md_name 1 = .ok (.iconst 0, 1) := by decide +kernel
theorem drf_Md_name_2 : decode rfb_Md_name 2 = .ok (.putfield 68, 3) := by decide +kernel
theorem drf_Md_name_5 : decode rfb_Md_name 5 = .ok (.aload_n 0, 1) := by decide +kernel
theorem drf_Md_name_6 : decode rfb_Md_name 6 = .ok (.getfield 71, 3) := by decide +kernel
theorem drf_Md_name_9 : decode rfb_Md_name 9 = .ok (.bipush 12, 2) := by decide +kernel
theorem drf_Md_name_11 : decode rfb_Md_name 11 = .ok (.if_icmp .eq 12, 3) := by decide +kernel
theorem drf_Md_name_14 : decode rfb_Md_name 14 = .ok (.iload_n 1, 1) := by decide +kernel
theorem drf_Md_name_15 : decode rfb_Md_name 15 = .ok (.ifCond .lt 8, 3) := by decide +kernel
theorem drf_Md_name_18 : decode rfb_Md_name 18 = .ok (.iload_n 1, 1) := by decide +kernel
theorem drf_Md_name_19 : decode rfb_Md_name 19 = .ok (.iconst 2, 1) := by decide +kernel
theorem drf_Md_name_20 : decode rfb_Md_name 20 = .ok (.if_icmp .le 5, 3) := by decide +kernel
theorem drf_Md_name_23 : decode rfb_Md_name 23 = .ok (.iconst (-1), 1) := by decide +kernel
theorem drf_Md_name_24 : decode rfb_Md_name 24 = .ok (.ireturn, 1) := by decide +kernel
theorem drf_Md_name_25 : decode rfb_Md_name 25 = .ok (.aload_n 0, 1) := by decide +kernel
theorem drf_Md_name_26 : decode rfb_Md_name 26 = .ok (.getfield 7, 3) := by decide +kernel
theorem drf_Md_name_29 : decode rfb_Md_name 29 = .ok (.aload_n 0, 1) := by decide +kernel
theorem drf_Md_name_30 : decode rfb_Md_name 30 = .ok (.getfield 71, 3) := by decide +kernel
theorem drf_Md_name_33 : decode rfb_Md_name 33 = .ok (.iload_n 1, 1) := by decide +kernel
theorem drf_Md_name_34 : decode rfb_Md_name 34 = .ok (.iastore, 1) := by decide +kernel
theorem drf_Md_name_35 : decode rfb_Md_name 35 = .ok (.aload_n 0, 1) := by decide +kernel
theorem drf_Md_name_36 : decode rfb_Md_name 36 = .ok (.getfield 19, 3) := by decide +kernel
theorem drf_Md_name_39 : decode rfb_Md_name 39 = .ok (.aload_n 0, 1) := by decide +kernel
theorem drf_Md_name_40 : decode rfb_Md_name 40 = .ok (.getfield 71, 3) := by decide +kernel
theorem drf_Md_name_43 : decode rfb_Md_name 43 = .ok (.iconst 2, 1) := by decide +kernel
theorem drf_Md_name_44 : decode rfb_Md_name 44 = .ok (.iastore, 1) := by decide +kernel
theorem drf_Md_name_45 : decode rfb_Md_name 45 = .ok (.aload_n 0, 1) := by decide +kernel
theorem drf_Md_name_46 : decode rfb_Md_name 46 = .ok (.getfield 22, 3) := by decide +kernel
theorem drf_Md_name_49 : decode rfb_Md_name 49 = .ok (.aload_n 0, 1) := by decide +kernel
theorem drf_Md_name_50 : decode rfb_Md_name 50 = .ok (.getfield 71, 3) := by decide +kernel
theorem drf_Md_name_53 : decode rfb_Md_name 53 = .ok (.iconst 1, 1) := by decide +kernel
theorem drf_Md_name_54 : decode rfb_Md_name 54 = .ok (.iastore, 1) := by decide +kernel
theorem drf_Md_name_55 : decode rfb_Md_name 55 = .ok (.aload_n 0, 1) := by decide +kernel
theorem drf_Md_name_56 : decode rfb_Md_name 56 = .ok (.getfield 25, 3) := by decide +kernel
theorem drf_Md_name_59 : decode rfb_Md_name 59 = .ok (.aload_n 0, 1) := by decide +kernel
theorem drf_Md_name_60 : decode rfb_Md_name 60 = .ok (.getfield 71, 3) := by decide +kernel
theorem drf_Md_name_63 : decode rfb_Md_name 63 = .ok (.iconst (-1), 1) := by decide +kernel
theorem drf_Md_name_64 : decode rfb_Md_name 64 = .ok (.iastore, 1) := by decide +kernel
theorem drf_Md_name_65 : decode rfb_Md_name 65 = .ok (.aload_n 0, 1) := by decide +kernel
theorem drf_Md_name_66 : decode rfb_Md_name 66 = .ok (.getfield 28, 3) := by decide +kernel
theorem drf_Md_name_69 : decode rfb_Md_name 69 = .ok (.aload_n 0, 1) := by decide +kernel
theorem drf_Md_name_70 : decode rfb_Md_name 70 = .ok (.getfield 71, 3) := by decide +kernel
theorem drf_Md_name_73 : decode rfb_Md_name 73 = .ok (.iconst (-1), 1) := by decide +kernel
theorem drf_Md_name_74 : decode rfb_Md_name 74 = .ok (.iastore, 1) := by decide +kernel
theorem drf_Md_name_75 : decode rfb_Md_name 75 = .ok (.aload_n 0, 1) := by decide +kernel
theorem drf_Md_name_76 : decode rfb_Md_name 76 = .ok (.getfield 31, 3) := by decide +kernel
theorem drf_Md_name_79 : decode rfb_Md_name 79 = .ok (.aload_n 0, 1) := by decide +kernel
theorem drf_Md_name_80 : decode rfb_Md_name 80 = .ok (.getfield 71, 3) := by decide +kernel
theorem drf_Md_name_83 : decode rfb_Md_name 83 = .ok (.iconst (-1), 1) := by decide +kernel
theorem drf_Md_name_84 : decode rfb_Md_name 84 = .ok (.iastore, 1) := by decide +kernel
theorem drf_Md_name_85 : decode rfb_Md_name 85 = .ok (.aload_n 0, 1) := by decide +kernel
theorem drf_Md_name_86 : decode rfb_Md_name 86 = .ok (.getfield 37, 3) := by decide +kernel
theorem drf_Md_name_89 : decode rfb_Md_name 89 = .ok (.bipush 8, 2) := by decide +kernel
theorem drf_Md_name_91 : decode rfb_Md_name 91 = .ok (.aload_n 0, 1) := by decide +kernel
theorem drf_Md_name_92 : decode rfb_Md_name 92 = .ok (.getfield 71, 3) := by decide +kernel
theorem drf_Md_name_95 : decode rfb_Md_name 95 = .ok (.imul, 1) := by decide +kernel
theorem drf_Md_name_96 : decode rfb_Md_name 96 = .ok (.iconst (-1), 1) := by decide +kernel
theorem drf_Md_name_97 : decode rfb_Md_name 97 = .ok (.iastore, 1) := by decide +kernel
theorem drf_Md_name_98 : decode rfb_Md_name 98 = .ok (.aload_n 0, 1) := by decide +kernel
theorem drf_Md_name_99 : decode rfb_Md_name 99 = .ok (.dup, 1) := by decide +kernel
theorem drf_Md_name_100 : decode rfb_Md_name 100 = .ok (.getfield 71, 3) := by decide +kernel
theorem drf_Md_name_103 : decode rfb_Md_name 103 = .ok (.iconst 1, 1) := by decide +kernel
theorem drf_Md_name_104 : decode rfb_Md_name 104 = .ok (.iadd, 1) := by decide +kernel
theorem drf_Md_name_105 : decode rfb_Md_name 105 = .ok (.putfield 71, 3) := by decide +kernel
theorem drf_Md_name_108 : decode rfb_Md_name 108 = .ok (.aload_n 0, 1) := by decide +kernel
theorem drf_Md_name_109 : decode rfb_Md_name 109 = .ok (.getfield 71, 3) := by decide +kernel
theorem drf_Md_name_112 : decode rfb_Md_name 112 = .ok (.iconst 1, 1) := by decide +kernel
theorem drf_Md_name_113 : decode rfb_Md_name 113 = .ok (.isub, 1) := by decide +kernel
theorem drf_Md_name_114 : decode rfb_Md_name 114 = .ok (.ireturn, 1) := by decide +kernel
theorem drf_Md_newer_0 : decode rfb_Md_newer 0 = .ok (.aload_n 0, 1) := by decide +kernel
theorem drf_Md_newer_1 : decode rfb_Md_newer 1 = .ok (.iconst 0, 1) := by decide +kernel
theorem drf_Md_newer_2 : decode rfb_Md_newer 2 = .ok (.putfield 68, 3) := by decide +kernel
theorem drf_Md_newer_5 : decode rfb_Md_newer 5 = .ok (.aload_n 0, 1) := by decide +kernel
theorem drf_Md_newer_6 : decode rfb_Md_newer 6 = .ok (.iload_n 1, 1) := by decide +kernel
theorem drf_Md_newer_7 : decode rfb_Md_newer 7 = .ok (.invokevirtual 74, 3) := by decide +kernel
theorem drf_Md_newer_10 : decode rfb_Md_newer 10 = .ok (.ifCond .eq 23, 3) := by decide +kernel
theorem drf_Md_newer_13 : decode rfb_Md_newer 13 = .ok (.iload_n 2, 1) := by decide +kernel
theorem drf_Md_newer_14 : decode rfb_Md_newer 14 = .ok (.ifCond .lt 19, 3) := by decide +kernel
theorem drf_Md_newer_17 : decode rfb_Md_newer 17 = .ok (.iload_n 2, 1) := by decide +kernel
theorem drf_Md_newer_18 : decode rfb_Md_newer 18 = .ok (.iconst 2, 1) := by decide +kernel
theorem drf_Md_newer_19 : decode rfb_Md_newer 19 = .ok (.if_icmp .gt 14, 3) := by decide +kernel
theorem drf_Md_newer_22 : decode rfb_Md_newer 22 = .ok (.aload_n 0, 1) := by decide +kernel
theorem drf_Md_newer_23 : decode rfb_Md_newer 23 = .ok (.getfield 13, 3) := by decide +kernel
theorem drf_Md_newer_26 : decode rfb_Md_newer 26 = .ok (.iload_n 1, 1) := by decide +kernel
theorem drf_Md_newer_27 : decode rfb_Md_newer 27 = .ok (.iaload, 1) := by decide +kernel
theorem drf_Md_newer_28 : decode rfb_Md_newer 28 = .ok (.bipush 7, 2) := by decide +kernel
theorem drf_Md_newer_30 : decode rfb_Md_newer 30 = .ok (.if_icmp .ne 5, 3) := by decide +kernel
theorem drf_Md_newer_33 : decode rfb_Md_newer 33 = .ok (.iconst (-1), 1) := by decide +kernel
theorem drf_Md_newer_34 : decode rfb_Md_newer 34 = .ok (.ireturn, 1) := by decide +kernel
theorem drf_Md_newer_35 : decode rfb_Md_newer 35 = .ok (.aload_n 0, 1) := by decide +kernel
theorem drf_Md_newer_36 : decode rfb_Md_newer 36 = .ok (.getfield 13, 3) := by decide +kernel
theorem drf_Md_newer_39 : decode rfb_Md_newer 39 = .ok (.iload_n 1, 1) := by decide +kernel
theorem drf_Md_newer_40 : decode rfb_Md_newer 40 = .ok (.dup2, 1) := by decide +kernel
theorem drf_Md_newer_41 : decode rfb_Md_newer 41 = .ok (.iaload, 1) := by decide +kernel
theorem drf_Md_newer_42 : decode rfb_Md_newer 42 = .ok (.iconst 1, 1) := by decide +kernel
theorem drf_Md_newer_43 : decode rfb_Md_newer 43 = .ok (.iadd, 1) := by decide +kernel
theorem drf_Md_newer_44 : decode rfb_Md_newer 44 = .ok (.iastore, 1) := by decide +kernel
theorem drf_Md_newer_45 : decode rfb_Md_newer 45 = .ok (.aload_n 0, 1) := by decide +kernel
theorem drf_Md_newer_46 : decode rfb_Md_newer 46 = .ok (.getfield 34, 3) := by decide +kernel
theorem drf_Md_newer_49 : decode rfb_Md_newer 49 = .ok (.bipush 8, 2) := by decide +kernel
theorem drf_Md_newer_51 : decode rfb_Md_newer 51 = .ok (.iload_n 1, 1) := by decide +kernel
theorem drf_Md_newer_52 : decode rfb_Md_newer 52 = .ok (.imul, 1) := by decide +kernel
theorem drf_Md_newer_53 : decode rfb_Md_newer 53 = .ok (.aload_n 0, 1) := by decide +kernel
theorem drf_Md_newer_54 : decode rfb_Md_newer 54 = .ok (.getfield 13, 3) := by decide +kernel
theorem drf_Md_newer_57 : decode rfb_Md_newer 57 = .ok (.iload_n 1, 1) := by decide +kernel
theorem drf_Md_newer_58 : decode rfb_Md_newer 58 = .ok (.iaload, 1) := by decide +kernel
theorem drf_Md_newer_59 : decode rfb_Md_newer 59 = .ok (.iadd, 1) := by decide +kernel
theorem drf_Md_newer_60 : decode rfb_Md_newer 60 = .ok (.iload_n 2, 1) := by decide +kernel
theorem drf_Md_newer_61 : decode rfb_Md_newer 61 = .ok (.iastore, 1) := by decide +kernel
theorem drf_Md_newer_62 : decode rfb_Md_newer 62 = .ok (.aload_n 0, 1) := by decide +kernel
theorem drf_Md_newer_63 : decode rfb_Md_newer 63 = .ok (.getfield 37, 3) := by decide +kernel
theorem drf_Md_newer_66 : decode rfb_Md_newer 66 = .ok (.bipush 8, 2) := by decide +kernel
theorem drf_Md_newer_68 : decode rfb_Md_newer 68 = .ok (.iload_n 1, 1) := by decide +kernel
theorem drf_Md_newer_69 : decode rfb_Md_newer 69 = .ok (.imul, 1) := by decide +kernel
theorem drf_Md_newer_70 : decode rfb_Md_newer 70 = .ok (.aload_n 0, 1) := by decide +kernel
theorem drf_Md_newer_71 : decode rfb_Md_newer 71 = .ok (.getfield 13, 3) := by decide +kernel
theorem drf_Md_newer_74 : decode rfb_Md_newer 74 = .ok (.iload_n 1, 1) := by decide +kernel
theorem drf_Md_newer_75 : decode rfb_Md_newer 75 = .ok (.iaload, 1) := by decide +kernel
theorem drf_Md_newer_76 : decode rfb_Md_newer 76 = .ok (.iadd, 1) := by decide +kernel
theorem drf_Md_newer_77 : decode rfb_Md_newer 77 = .ok (.iconst (-1), 1) := by decide +kernel
theorem drf_Md_newer_78 : decode rfb_Md_newer 78 = .ok (.iastore, 1) := by decide +kernel
theorem drf_Md_newer_79 : decode rfb_Md_newer 79 = .ok (.aload_n 0, 1) := by decide +kernel
theorem drf_Md_newer_80 : decode rfb_Md_newer 80 = .ok (.getfield 13, 3) := by decide +kernel
theorem drf_Md_newer_83 : decode rfb_Md_newer 83 = .ok (.iload_n 1, 1) := by decide +kernel
theorem drf_Md_newer_84 : decode rfb_Md_newer 84 = .ok (.iaload, 1) := by decide +kernel
theorem drf_Md_newer_85 : decode rfb_Md_newer 85 = .ok (.ireturn, 1) := by decide +kernel
theorem drf_Md_needs_0 : decode rfb_Md_needs 0 = .ok (.aload_n 0, 1) := by decide +kernel
theorem drf_Md_needs_1 : decode rfb_Md_needs 1 = .ok (.iconst 0, 1) := by decide +kernel
theorem drf_Md_needs_2 : decode rfb_Md_needs 2 = .ok (.putfield 68, 3) := by decide +kernel
theorem drf_Md_needs_5 : decode rfb_Md_needs 5 = .ok (.aload_n 0, 1) := by decide +kernel
theorem drf_Md_needs_6 : decode rfb_Md_needs 6 = .ok (.iload_n 1, 1) := by decide +kernel
theorem drf_Md_needs_7 : decode rfb_Md_needs 7 = .ok (.invokevirtual 74, 3) := by decide +kernel
theorem drf_Md_needs_10 : decode rfb_Md_needs 10 = .ok (.ifCond .eq 42, 3) := by decide +kernel
theorem drf_Md_needs_13 : decode rfb_Md_needs 13 = .ok (.iload_n 2, 1) := by decide +kernel
theorem drf_Md_needs_14 : decode rfb_Md_needs 14 = .ok (.ifCond .lt 38, 3) := by decide +kernel
theorem drf_Md_needs_17 : decode rfb_Md_needs 17 = .ok (.iload_n 2, 1) := by decide +kernel
theorem drf_Md_needs_18 : decode rfb_Md_needs 18 = .ok (.aload_n 0, 1) := by decide +kernel
theorem drf_Md_needs_19 : decode rfb_Md_needs 19 = .ok (.getfield 13, 3) := by decide +kernel
theorem drf_Md_needs_22 : decode rfb_Md_needs 22 = .ok (.iload_n 1, 1) := by decide +kernel
theorem drf_Md_needs_23 : decode rfb_Md_needs 23 = .ok (.iaload, 1) := by decide +kernel
theorem drf_Md_needs_24 : decode rfb_Md_needs 24 = .ok (.if_icmp .gt 28, 3) := by decide +kernel
theorem drf_Md_needs_27 : decode rfb_Md_needs 27 = .ok (.aload_n 0, 1) := by decide +kernel
theorem drf_Md_needs_28 : decode rfb_Md_needs 28 = .ok (.iload_n 3, 1) := by decide +kernel
theorem drf_Md_needs_29 : decode rfb_Md_needs 29 = .ok (.invokevirtual 74, 3) := by decide +kernel
theorem drf_Md_needs_32 : decode rfb_Md_needs 32 = .ok (.ifCond .eq 20, 3) := by decide +kernel
theorem drf_Md_needs_35 : decode rfb_Md_needs 35 = .ok (.iload_n 3, 1) := by decide +kernel
theorem drf_Md_needs_36 : decode rfb_Md_needs 36 = .ok (.iload_n 1, 1) := by decide +kernel
theorem drf_Md_needs_37 : decode rfb_Md_needs 37 = .ok (.if_icmp .eq 15, 3) := by decide +kernel
theorem drf_Md_needs_40 : decode rfb_Md_needs 40 = .ok (.iload 4, 2) := by decide +kernel
theorem drf_Md_needs_42 : decode rfb_Md_needs 42 = .ok (.ifCond .lt 10, 3) := by decide +kernel
theorem drf_Md_needs_45 : decode rfb_Md_needs 45 = .ok (.iload 4, 2) := by decide +kernel
theorem drf_Md_needs_47 : decode rfb_Md_needs 47 = .ok (.bipush 7, 2) := by decide +kernel
theorem drf_Md_needs_49 : decode rfb_Md_needs 49 = .ok (.if_icmp .le 5, 3) := by decide +kernel
theorem drf_Md_needs_52 : decode rfb_Md_needs 52 = .ok (.iconst 0, 1) := by decide +kernel
theorem drf_Md_needs_53 : decode rfb_Md_needs 53 = .ok (.ireturn, 1) := by decide +kernel
theorem drf_Md_needs_54 : decode rfb_Md_needs 54 = .ok (.aload_n 0, 1) := by decide +kernel
theorem drf_Md_needs_55 : decode rfb_Md_needs 55 = .ok (.getfield 37, 3) := by decide +kernel
theorem drf_Md_needs_58 : decode rfb_Md_needs 58 = .ok (.bipush 8, 2) := by decide +kernel
theorem drf_Md_needs_60 : decode rfb_Md_needs 60 = .ok (.iload_n 1, 1) := by decide +kernel
theorem drf_Md_needs_61 : decode rfb_Md_needs 61 = .ok (.imul, 1) := by decide +kernel
theorem drf_Md_needs_62 : decode rfb_Md_needs 62 = .ok (.iload_n 2, 1) := by decide +kernel
theorem drf_Md_needs_63 : decode rfb_Md_needs 63 = .ok (.iadd, 1) := by decide +kernel
theorem drf_Md_needs_64 : decode rfb_Md_needs 64 = .ok (.iload_n 3, 1) := by decide +kernel
theorem drf_Md_needs_65 : decode rfb_Md_needs 65 = .ok (.iastore, 1) := by decide +kernel
theorem drf_Md_needs_66 : decode rfb_Md_needs 66 = .ok (.aload_n 0, 1) := by decide +kernel
theorem drf_Md_needs_67 : decode rfb_Md_needs 67 = .ok (.getfield 40, 3) := by decide +kernel
theorem drf_Md_needs_70 : decode rfb_Md_needs 70 = .ok (.bipush 8, 2) := by decide +kernel
theorem drf_Md_needs_72 : decode rfb_Md_needs 72 = .ok (.iload_n 1, 1) := by decide +kernel
theorem drf_Md_needs_73 : decode rfb_Md_needs 73 = .ok (.imul, 1) := by decide +kernel
theorem drf_Md_needs_74 : decode rfb_Md_needs 74 = .ok (.iload_n 2, 1) := by decide +kernel
theorem drf_Md_needs_75 : decode rfb_Md_needs 75 = .ok (.iadd, 1) := by decide +kernel
theorem drf_Md_needs_76 : decode rfb_Md_needs 76 = .ok (.iload 4, 2) := by decide +kernel
theorem drf_Md_needs_78 : decode rfb_Md_needs 78 = .ok (.iastore, 1) := by decide +kernel
theorem drf_Md_needs_79 : decode rfb_Md_needs 79 = .ok (.iconst 1, 1) := by decide +kernel
theorem drf_Md_needs_80 : decode rfb_Md_needs 80 = .ok (.ireturn, 1) := by decide +kernel
theorem drf_Md_rule_0 : decode rfb_Md_rule 0 = .ok (.aload_n 0, 1) := by decide +kernel
theorem drf_Md_rule_1 : decode rfb_Md_rule 1 = .ok (.iconst 0, 1) := by decide +kernel
theorem drf_Md_rule_2 : decode rfb_Md_rule 2 = .ok (.putfield 68, 3) := by decide +kernel
theorem drf_Md_rule_5 : decode rfb_Md_rule 5 = .ok (.aload_n 0, 1) := by decide +kernel
theorem drf_Md_rule_6 : decode rfb_Md_rule 6 = .ok (.iload_n 1, 1) := by decide +kernel
theorem drf_Md_rule_7 : decode rfb_Md_rule 7 = .ok (.invokevirtual 74, 3) := by decide +kernel
theorem drf_Md_rule_10 : decode rfb_Md_rule 10 = .ok (.ifCond .eq 37, 3) := by decide +kernel
theorem drf_Md_rule_13 : decode rfb_Md_rule 13 = .ok (.iload_n 2, 1) := by decide +kernel
theorem drf_Md_rule_14 : decode rfb_Md_rule 14 = .ok (.iconst (-1), 1) := by decide +kernel
theorem drf_Md_rule_15 : decode rfb_Md_rule 15 = .ok (.if_icmp .lt 32, 3) := by decide +kernel
theorem drf_Md_rule_18 : decode rfb_Md_rule 18 = .ok (.iload_n 2, 1) := by decide +kernel
theorem drf_Md_rule_19 : decode rfb_Md_rule 19 = .ok (.iconst 2, 1) := by decide +kernel
theorem drf_Md_rule_20 : decode rfb_Md_rule 20 = .ok (.if_icmp .gt 27, 3) := by decide +kernel
theorem drf_Md_rule_23 : decode rfb_Md_rule 23 = .ok (.iload_n 3, 1) := by decide +kernel
theorem drf_Md_rule_24 : decode rfb_Md_rule 24 = .ok (.iconst 1, 1) := by decide +kernel
theorem drf_Md_rule_25 : decode rfb_Md_rule 25 = .ok (.if_icmp .lt 22, 3) := by decide +kernel
theorem drf_Md_rule_28 : decode rfb_Md_rule 28 = .ok (.iload_n 3, 1) := by decide +kernel
theorem drf_Md_rule_29 : decode rfb_Md_rule 29 = .ok (.sipush 1000, 3) := by decide +kernel
theorem drf_Md_rule_32 : decode rfb_Md_rule 32 = .ok (.if_icmp .gt 15, 3) := by decide +kernel
theorem drf_Md_rule_35 : decode rfb_Md_rule 35 = .ok (.iload 4, 2) := by decide +kernel
theorem drf_Md_rule_37 : decode rfb_Md_rule 37 = .ok (.iconst (-1), 1) := by decide +kernel
theorem drf_Md_rule_38 : decode rfb_Md_rule 38 = .ok (.if_icmp .lt 9, 3) := by decide +kernel
theorem drf_Md_rule_41 : decode rfb_Md_rule 41 = .ok (.iload 4, 2) := by decide +kernel
theorem drf_Md_rule_43 : decode rfb_Md_rule 43 = .ok (.iconst 3, 1) := by decide +kernel
theorem drf_Md_rule_44 : decode rfb_Md_rule 44 = .ok (.if_icmp .le 5, 3) := by decide +kernel
theorem drf_Md_rule_47 : decode rfb_Md_rule 47 = .ok (.iconst 0, 1) := by decide +kernel
theorem drf_Md_rule_48 : decode rfb_Md_rule 48 = .ok (.ireturn, 1) := by decide +kernel
theorem drf_Md_rule_49 : decode rfb_Md_rule 49 = .ok (.aload_n 0, 1) := by decide +kernel
theorem drf_Md_rule_50 : decode rfb_Md_rule 50 = .ok (.getfield 19, 3) := by decide +kernel
theorem drf_Md_rule_53 : decode rfb_Md_rule 53 = .ok (.iload_n 1, 1) := by decide +kernel
theorem drf_Md_rule_54 : decode rfb_Md_rule 54 = .ok (.iload_n 2, 1) := by decide +kernel
theorem drf_Md_rule_55 : decode rfb_Md_rule 55 = .ok (.iastore, 1) := by decide +kernel
theorem drf_Md_rule_56 : decode rfb_Md_rule 56 = .ok (.aload_n 0, 1) := by decide +kernel
theorem drf_Md_rule_57 : decode rfb_Md_rule 57 = .ok (.getfield 22, 3) := by decide +kernel
theorem drf_Md_rule_60 : decode rfb_Md_rule 60 = .ok (.iload_n 1, 1) := by decide +kernel
theorem drf_Md_rule_61 : decode rfb_Md_rule 61 = .ok (.iload_n 3, 1) := by decide +kernel
theorem drf_Md_rule_62 : decode rfb_Md_rule 62 = .ok (.iastore, 1) := by decide +kernel
theorem drf_Md_rule_63 : decode rfb_Md_rule 63 = .ok (.aload_n 0, 1) := by decide +kernel
theorem drf_Md_rule_64 : decode rfb_Md_rule 64 = .ok (.getfield 25, 3) := by decide +kernel
theorem drf_Md_rule_67 : decode rfb_Md_rule 67 = .ok (.iload_n 1, 1) := by decide +kernel
theorem drf_Md_rule_68 : decode rfb_Md_rule 68 = .ok (.iload 4, 2) := by decide +kernel
theorem drf_Md_rule_70 : decode rfb_Md_rule 70 = .ok (.iastore, 1) := by decide +kernel
theorem drf_Md_rule_71 : decode rfb_Md_rule 71 = .ok (.iconst 1, 1) := by decide +kernel
theorem drf_Md_rule_72 : decode rfb_Md_rule 72 = .ok (.ireturn, 1) := by decide +kernel
theorem drf_Md_advise_0 : decode rfb_Md_advise 0 = .ok (.aload_n 0, 1) := by decide +kernel
theorem drf_Md_advise_1 : decode rfb_Md_advise 1 = .ok (.iconst 0, 1) := by decide +kernel
theorem drf_Md_advise_2 : decode rfb_Md_advise 2 = .ok (.putfield 68, 3) := by decide +kernel
theorem drf_Md_advise_5 : decode rfb_Md_advise 5 = .ok (.aload_n 0, 1) := by decide +kernel
theorem drf_Md_advise_6 : decode rfb_Md_advise 6 = .ok (.iload_n 1, 1) := by decide +kernel
theorem drf_Md_advise_7 : decode rfb_Md_advise 7 = .ok (.invokevirtual 74, 3) := by decide +kernel
theorem drf_Md_advise_10 : decode rfb_Md_advise 10 = .ok (.ifCond .eq 18, 3) := by decide +kernel
theorem drf_Md_advise_13 : decode rfb_Md_advise 13 = .ok (.iload_n 2, 1) := by decide +kernel
theorem drf_Md_advise_14 : decode rfb_Md_advise 14 = .ok (.iconst (-1), 1) := by decide +kernel
theorem drf_Md_advise_15 : decode rfb_Md_advise 15 = .ok (.if_icmp .lt 13, 3) := by decide +kernel
theorem drf_Md_advise_18 : decode rfb_Md_advise 18 = .ok (.iload_n 2, 1) := by decide +kernel
theorem drf_Md_advise_19 : decode rfb_Md_advise 19 = .ok (.aload_n 0, 1) := by decide +kernel
theorem drf_Md_advise_20 : decode rfb_Md_advise 20 = .ok (.getfield 13, 3) := by decide +kernel
theorem drf_Md_advise_23 : decode rfb_Md_advise 23 = .ok (.iload_n 1, 1) := by decide +kernel
theorem drf_Md_advise_24 : decode rfb_Md_advise 24 = .ok (.iaload, 1) := by decide +kernel
theorem drf_Md_advise_25 : decode rfb_Md_advise 25 = .ok (.if_icmp .le 5, 3) := by decide +kernel
theorem drf_Md_advise_28 : decode rfb_Md_advise 28 = .ok (.iconst 0, 1) := by decide +kernel
theorem drf_Md_advise_29 : decode rfb_Md_advise 29 = .ok (.ireturn, 1) := by decide +kernel
theorem drf_Md_advise_30 : decode rfb_Md_advise 30 = .ok (.aload_n 0, 1) := by decide +kernel
theorem drf_Md_advise_31 : decode rfb_Md_advise 31 = .ok (.getfield 28, 3) := by decide +kernel
theorem drf_Md_advise_34 : decode rfb_Md_advise 34 = .ok (.iload_n 1, 1) := by decide +kernel
theorem drf_Md_advise_35 : decode rfb_Md_advise 35 = .ok (.iload_n 2, 1) := by decide +kernel
theorem drf_Md_advise_36 : decode rfb_Md_advise 36 = .ok (.iastore, 1) := by decide +kernel
theorem drf_Md_advise_37 : decode rfb_Md_advise 37 = .ok (.iconst 1, 1) := by decide +kernel
theorem drf_Md_advise_38 : decode rfb_Md_advise 38 = .ok (.ireturn, 1) := by decide +kernel
theorem drf_Md_has_0 : decode rfb_Md_has 0 = .ok (.aload_n 0, 1) := by decide +kernel
theorem drf_Md_has_1 : decode rfb_Md_has 1 = .ok (.iconst 0, 1) := by decide +kernel
theorem drf_Md_has_2 : decode rfb_Md_has 2 = .ok (.putfield 68, 3) := by decide +kernel
theorem drf_Md_has_5 : decode rfb_Md_has 5 = .ok (.aload_n 0, 1) := by decide +kernel
theorem drf_Md_has_6 : decode rfb_Md_has 6 = .ok (.iload_n 1, 1) := by decide +kernel
theorem drf_Md_has_7 : decode rfb_Md_has 7 = .ok (.invokevirtual 74, 3) := by decide +kernel
theorem drf_Md_has_10 : decode rfb_Md_has 10 = .ok (.ifCond .eq 12, 3) := by decide +kernel
theorem drf_Md_has_13 : decode rfb_Md_has 13 = .ok (.aload_n 0, 1) := by decide +kernel
theorem drf_Md_has_14 : decode rfb_Md_has 14 = .ok (.getfield 16, 3) := by decide +kernel
theorem drf_Md_has_17 : decode rfb_Md_has 17 = .ok (.iload_n 1, 1) := by decide +kernel
theorem drf_Md_has_18 : decode rfb_Md_has 18 = .ok (.iaload, 1) := by decide +kernel
theorem drf_Md_has_19 : decode rfb_Md_has 19 = .ok (.goto 4, 3) := by decide +kernel
theorem drf_Md_has_22 : decode rfb_Md_has 22 = .ok (.iconst (-1), 1) := by decide +kernel
theorem drf_Md_has_23 : decode rfb_Md_has 23 = .ok (.ireturn, 1) := by decide +kernel
theorem drf_Md_isHit_0 : decode rfb_Md_isHit 0 = .ok (.aload_n 0, 1) := by decide +kernel
theorem drf_Md_isHit_1 : decode rfb_Md_isHit 1 = .ok (.getfield 28, 3) := by decide +kernel
theorem drf_Md_isHit_4 : decode rfb_Md_isHit 4 = .ok (.iload_n 1, 1) := by decide +kernel
theorem drf_Md_isHit_5 : decode rfb_Md_isHit 5 = .ok (.iaload, 1) := by decide +kernel
theorem drf_Md_isHit_6 : decode rfb_Md_isHit 6 = .ok (.iconst (-1), 1) := by decide +kernel
theorem drf_Md_isHit_7 : decode rfb_Md_isHit 7 = .ok (.if_icmp .eq 22, 3) := by decide +kernel
theorem drf_Md_isHit_10 : decode rfb_Md_isHit 10 = .ok (.aload_n 0, 1) := by decide +kernel
theorem drf_Md_isHit_11 : decode rfb_Md_isHit 11 = .ok (.getfield 16, 3) := by decide +kernel
theorem drf_Md_isHit_14 : decode rfb_Md_isHit 14 = .ok (.iload_n 1, 1) := by decide +kernel
theorem drf_Md_isHit_15 : decode rfb_Md_isHit 15 = .ok (.iaload, 1) := by decide +kernel
theorem drf_Md_isHit_16 : decode rfb_Md_isHit 16 = .ok (.aload_n 0, 1) := by decide +kernel
theorem drf_Md_isHit_17 : decode rfb_Md_isHit 17 = .ok (.getfield 28, 3) := by decide +kernel
theorem drf_Md_isHit_20 : decode rfb_Md_isHit 20 = .ok (.iload_n 1, 1) := by decide +kernel
theorem drf_Md_isHit_21 : decode rfb_Md_isHit 21 = .ok (.iaload, 1) := by decide +kernel
theorem drf_Md_isHit_22 : decode rfb_Md_isHit 22 = .ok (.if_icmp .gt 7, 3) := by decide +kernel
theorem drf_Md_isHit_25 : decode rfb_Md_isHit 25 = .ok (.iconst 1, 1) := by decide +kernel
theorem drf_Md_isHit_26 : decode rfb_Md_isHit 26 = .ok (.goto 4, 3) := by decide +kernel
theorem drf_Md_isHit_29 : decode rfb_Md_isHit 29 = .ok (.iconst 0, 1) := by decide +kernel
theorem drf_Md_isHit_30 : decode rfb_Md_isHit 30 = .ok (.ireturn, 1) := by decide +kernel
theorem drf_Md_isAllowed_0 : decode rfb_Md_isAllowed 0 = .ok (.iload_n 2, 1) := by decide +kernel
theorem drf_Md_isAllowed_1 : decode rfb_Md_isAllowed 1 = .ok (.aload_n 0, 1) := by decide +kernel
theorem drf_Md_isAllowed_2 : decode rfb_Md_isAllowed 2 = .ok (.getfield 13, 3) := by decide +kernel
theorem drf_Md_isAllowed_5 : decode rfb_Md_isAllowed 5 = .ok (.iload_n 1, 1) := by decide +kernel
theorem drf_Md_isAllowed_6 : decode rfb_Md_isAllowed 6 = .ok (.iaload, 1) := by decide +kernel
theorem drf_Md_isAllowed_7 : decode rfb_Md_isAllowed 7 = .ok (.if_icmp .gt 7, 3) := by decide +kernel
theorem drf_Md_isAllowed_10 : decode rfb_Md_isAllowed 10 = .ok (.iconst 1, 1) := by decide +kernel
theorem drf_Md_isAllowed_11 : decode rfb_Md_isAllowed 11 = .ok (.goto 4, 3) := by decide +kernel
theorem drf_Md_isAllowed_14 : decode rfb_Md_isAllowed 14 = .ok (.iconst 0, 1) := by decide +kernel
theorem drf_Md_isAllowed_15 : decode rfb_Md_isAllowed 15 = .ok (.istore_n 3, 1) := by decide +kernel
theorem drf_Md_isAllowed_16 : decode rfb_Md_isAllowed 16 = .ok (.aload_n 0, 1) := by decide +kernel
theorem drf_Md_isAllowed_17 : decode rfb_Md_isAllowed 17 = .ok (.getfield 16, 3) := by decide +kernel
theorem drf_Md_isAllowed_20 : decode rfb_Md_isAllowed 20 = .ok (.iload_n 1, 1) := by decide +kernel
theorem drf_Md_isAllowed_21 : decode rfb_Md_isAllowed 21 = .ok (.iaload, 1) := by decide +kernel
theorem drf_Md_isAllowed_22 : decode rfb_Md_isAllowed 22 = .ok (.iconst 1, 1) := by decide +kernel
theorem drf_Md_isAllowed_23 : decode rfb_Md_isAllowed 23 = .ok (.iadd, 1) := by decide +kernel
theorem drf_Md_isAllowed_24 : decode rfb_Md_isAllowed 24 = .ok (.istore 4, 2) := by decide +kernel
theorem drf_Md_isAllowed_26 : decode rfb_Md_isAllowed 26 = .ok (.iload 4, 2) := by decide +kernel
theorem drf_Md_isAllowed_28 : decode rfb_Md_isAllowed 28 = .ok (.iload_n 2, 1) := by decide +kernel
theorem drf_Md_isAllowed_29 : decode rfb_Md_isAllowed 29 = .ok (.if_icmp .gt 40, 3) := by decide +kernel
theorem drf_Md_isAllowed_32 : decode rfb_Md_isAllowed 32 = .ok (.iload_n 3, 1) := by decide +kernel
theorem drf_Md_isAllowed_33 : decode rfb_Md_isAllowed 33 = .ok (.ifCond .eq 36, 3) := by decide +kernel
theorem drf_Md_isAllowed_36 : decode rfb_Md_isAllowed 36 = .ok (.aload_n 0, 1) := by decide +kernel
theorem drf_Md_isAllowed_37 : decode rfb_Md_isAllowed 37 = .ok (.getfield 34, 3) := by decide +kernel
theorem drf_Md_isAllowed_40 : decode rfb_Md_isAllowed 40 = .ok (.bipush 8, 2) := by decide +kernel
theorem drf_Md_isAllowed_42 : decode rfb_Md_isAllowed 42 = .ok (.iload_n 1, 1) := by decide +kernel
theorem drf_Md_isAllowed_43 : decode rfb_Md_isAllowed 43 = .ok (.imul, 1) := by decide +kernel
theorem drf_Md_isAllowed_44 : decode rfb_Md_isAllowed 44 = .ok (.iload 4, 2) := by decide +kernel
theorem drf_Md_isAllowed_46 : decode rfb_Md_isAllowed 46 = .ok (.iadd, 1) := by decide +kernel
theorem drf_Md_isAllowed_47 : decode rfb_Md_isAllowed 47 = .ok (.iaload, 1) := by decide +kernel
theorem drf_Md_isAllowed_48 : decode rfb_Md_isAllowed 48 = .ok (.aload_n 0, 1) := by decide +kernel
theorem drf_Md_isAllowed_49 : decode rfb_Md_isAllowed 49 = .ok (.getfield 19, 3) := by decide +kernel
theorem drf_Md_isAllowed_52 : decode rfb_Md_isAllowed 52 = .ok (.iload_n 1, 1) := by decide +kernel
theorem drf_Md_isAllowed_53 : decode rfb_Md_isAllowed 53 = .ok (.iaload, 1) := by decide +kernel
theorem drf_Md_isAllowed_54 : decode rfb_Md_isAllowed 54 = .ok (.if_icmp .gt 7, 3) := by decide +kernel
theorem drf_Md_isAllowed_57 : decode rfb_Md_isAllowed 57 = .ok (.iconst 1, 1) := by decide +kernel
theorem drf_Md_isAllowed_58 : decode rfb_Md_isAllowed 58 = .ok (.goto 4, 3) := by decide +kernel
theorem drf_Md_isAllowed_61 : decode rfb_Md_isAllowed 61 = .ok (.iconst 0, 1) := by decide +kernel
theorem drf_Md_isAllowed_62 : decode rfb_Md_isAllowed 62 = .ok (.istore_n 3, 1) := by decide +kernel
theorem drf_Md_isAllowed_63 : decode rfb_Md_isAllowed 63 = .ok (.iinc 4 1, 3) := by decide +kernel
theorem drf_Md_isAllowed_66 : decode rfb_Md_isAllowed 66 = .ok (.goto (-40), 3) := by decide +kernel
theorem drf_Md_isAllowed_69 : decode rfb_Md_isAllowed 69 = .ok (.iload_n 3, 1) := by decide +kernel
theorem drf_Md_isAllowed_70 : decode rfb_Md_isAllowed 70 = .ok (.ireturn, 1) := by decide +kernel
theorem drf_Md_goalOf_0 : decode rfb_Md_goalOf 0 = .ok (.aload_n 0, 1) := by decide +kernel
theorem drf_Md_goalOf_1 : decode rfb_Md_goalOf 1 = .ok (.getfield 16, 3) := by decide +kernel
theorem drf_Md_goalOf_4 : decode rfb_Md_goalOf 4 = .ok (.iload_n 1, 1) := by decide +kernel
theorem drf_Md_goalOf_5 : decode rfb_Md_goalOf 5 = .ok (.iaload, 1) := by decide +kernel
theorem drf_Md_goalOf_6 : decode rfb_Md_goalOf 6 = .ok (.istore_n 2, 1) := by decide +kernel
theorem drf_Md_goalOf_7 : decode rfb_Md_goalOf 7 = .ok (.aload_n 0, 1) := by decide +kernel
theorem drf_Md_goalOf_8 : decode rfb_Md_goalOf 8 = .ok (.iload_n 1, 1) := by decide +kernel
theorem drf_Md_goalOf_9 : decode rfb_Md_goalOf 9 = .ok (.iload_n 2, 1) := by decide +kernel
theorem drf_Md_goalOf_10 : decode rfb_Md_goalOf 10 = .ok (.iconst 1, 1) := by decide +kernel
theorem drf_Md_goalOf_11 : decode rfb_Md_goalOf 11 = .ok (.iadd, 1) := by decide +kernel
theorem drf_Md_goalOf_12 : decode rfb_Md_goalOf 12 = .ok (.invokevirtual 78, 3) := by decide +kernel
theorem drf_Md_goalOf_15 : decode rfb_Md_goalOf 15 = .ok (.ifCond .eq 9, 3) := by decide +kernel
theorem drf_Md_goalOf_18 : decode rfb_Md_goalOf 18 = .ok (.iinc 2 1, 3) := by decide +kernel
theorem drf_Md_goalOf_21 : decode rfb_Md_goalOf 21 = .ok (.goto (-14), 3) := by decide +kernel
theorem drf_Md_goalOf_24 : decode rfb_Md_goalOf 24 = .ok (.aload_n 0, 1) := by decide +kernel
theorem drf_Md_goalOf_25 : decode rfb_Md_goalOf 25 = .ok (.iload_n 1, 1) := by decide +kernel
theorem drf_Md_goalOf_26 : decode rfb_Md_goalOf 26 = .ok (.invokevirtual 82, 3) := by decide +kernel
theorem drf_Md_goalOf_29 : decode rfb_Md_goalOf 29 = .ok (.ifCond .eq 39, 3) := by decide +kernel
theorem drf_Md_goalOf_32 : decode rfb_Md_goalOf 32 = .ok (.iload_n 2, 1) := by decide +kernel
theorem drf_Md_goalOf_33 : decode rfb_Md_goalOf 33 = .ok (.aload_n 0, 1) := by decide +kernel
theorem drf_Md_goalOf_34 : decode rfb_Md_goalOf 34 = .ok (.getfield 28, 3) := by decide +kernel
theorem drf_Md_goalOf_37 : decode rfb_Md_goalOf 37 = .ok (.iload_n 1, 1) := by decide +kernel
theorem drf_Md_goalOf_38 : decode rfb_Md_goalOf 38 = .ok (.iaload, 1) := by decide +kernel
theorem drf_Md_goalOf_39 : decode rfb_Md_goalOf 39 = .ok (.if_icmp .gt 29, 3) := by decide +kernel
theorem drf_Md_goalOf_42 : decode rfb_Md_goalOf 42 = .ok (.aload_n 0, 1) := by decide +kernel
theorem drf_Md_goalOf_43 : decode rfb_Md_goalOf 43 = .ok (.getfield 28, 3) := by decide +kernel
theorem drf_Md_goalOf_46 : decode rfb_Md_goalOf 46 = .ok (.iload_n 1, 1) := by decide +kernel
theorem drf_Md_goalOf_47 : decode rfb_Md_goalOf 47 = .ok (.iaload, 1) := by decide +kernel
theorem drf_Md_goalOf_48 : decode rfb_Md_goalOf 48 = .ok (.aload_n 0, 1) := by decide +kernel
theorem drf_Md_goalOf_49 : decode rfb_Md_goalOf 49 = .ok (.getfield 13, 3) := by decide +kernel
theorem drf_Md_goalOf_52 : decode rfb_Md_goalOf 52 = .ok (.iload_n 1, 1) := by decide +kernel
theorem drf_Md_goalOf_53 : decode rfb_Md_goalOf 53 = .ok (.iaload, 1) := by decide +kernel
theorem drf_Md_goalOf_54 : decode rfb_Md_goalOf 54 = .ok (.if_icmp .ge 14, 3) := by decide +kernel
theorem drf_Md_goalOf_57 : decode rfb_Md_goalOf 57 = .ok (.aload_n 0, 1) := by decide +kernel
theorem drf_Md_goalOf_58 : decode rfb_Md_goalOf 58 = .ok (.getfield 28, 3) := by decide +kernel
theorem drf_Md_goalOf_61 : decode rfb_Md_goalOf 61 = .ok (.iload_n 1, 1) := by decide +kernel
theorem drf_Md_goalOf_62 : decode rfb_Md_goalOf 62 = .ok (.iaload, 1) := by decide +kernel
theorem drf_Md_goalOf_63 : decode rfb_Md_goalOf 63 = .ok (.iconst 1, 1) := by decide +kernel
theorem drf_Md_goalOf_64 : decode rfb_Md_goalOf 64 = .ok (.iadd, 1) := by decide +kernel
theorem drf_Md_goalOf_65 : decode rfb_Md_goalOf 65 = .ok (.goto 4, 3) := by decide +kernel
theorem drf_Md_goalOf_68 : decode rfb_Md_goalOf 68 = .ok (.iload_n 2, 1) := by decide +kernel
theorem drf_Md_goalOf_69 : decode rfb_Md_goalOf 69 = .ok (.ireturn, 1) := by decide +kernel
theorem drf_Md_goal_0 : decode rfb_Md_goal 0 = .ok (.aload_n 0, 1) := by decide +kernel
theorem drf_Md_goal_1 : decode rfb_Md_goal 1 = .ok (.iconst 0, 1) := by decide +kernel
theorem drf_Md_goal_2 : decode rfb_Md_goal 2 = .ok (.putfield 68, 3) := by decide +kernel
theorem drf_Md_goal_5 : decode rfb_Md_goal 5 = .ok (.aload_n 0, 1) := by decide +kernel
theorem drf_Md_goal_6 : decode rfb_Md_goal 6 = .ok (.iload_n 1, 1) := by decide +kernel
theorem drf_Md_goal_7 : decode rfb_Md_goal 7 = .ok (.invokevirtual 74, 3) := by decide +kernel
theorem drf_Md_goal_10 : decode rfb_Md_goal 10 = .ok (.ifCond .eq 11, 3) := by decide +kernel
theorem drf_Md_goal_13 : decode rfb_Md_goal 13 = .ok (.aload_n 0, 1) := by decide +kernel
theorem drf_Md_goal_14 : decode rfb_Md_goal 14 = .ok (.iload_n 1, 1) := by decide +kernel
theorem drf_Md_goal_15 : decode rfb_Md_goal 15 = .ok (.invokevirtual 85, 3) := by decide +kernel
theorem drf_Md_goal_18 : decode rfb_Md_goal 18 = .ok (.goto 4, 3) := by decide +kernel
theorem drf_Md_goal_21 : decode rfb_Md_goal 21 = .ok (.iconst (-1), 1) := by decide +kernel
theorem drf_Md_goal_22 : decode rfb_Md_goal 22 = .ok (.ireturn, 1) := by decide +kernel
theorem drf_Md_areOne_0 : decode rfb_Md_areOne 0 = .ok (.iload_n 1, 1) := by decide +kernel
theorem drf_Md_areOne_1 : decode rfb_Md_areOne 1 = .ok (.iload_n 2, 1) := by decide +kernel
theorem drf_Md_areOne_2 : decode rfb_Md_areOne 2 = .ok (.if_icmp .eq 43, 3) := by decide +kernel
theorem drf_Md_areOne_5 : decode rfb_Md_areOne 5 = .ok (.aload_n 0, 1) := by decide +kernel
theorem drf_Md_areOne_6 : decode rfb_Md_areOne 6 = .ok (.getfield 25, 3) := by decide +kernel
theorem drf_Md_areOne_9 : decode rfb_Md_areOne 9 = .ok (.iload_n 1, 1) := by decide +kernel
theorem drf_Md_areOne_10 : decode rfb_Md_areOne 10 = .ok (.iaload, 1) := by decide +kernel
theorem drf_Md_areOne_11 : decode rfb_Md_areOne 11 = .ok (.iconst (-1), 1) := by decide +kernel
theorem drf_Md_areOne_12 : decode rfb_Md_areOne 12 = .ok (.if_icmp .eq 37, 3) := by decide +kernel
theorem drf_Md_areOne_15 : decode rfb_Md_areOne 15 = .ok (.aload_n 0, 1) := by decide +kernel
theorem drf_Md_areOne_16 : decode rfb_Md_areOne 16 = .ok (.getfield 25, 3) := by decide +kernel
theorem drf_Md_areOne_19 : decode rfb_Md_areOne 19 = .ok (.iload_n 1, 1) := by decide +kernel
theorem drf_Md_areOne_20 : decode rfb_Md_areOne 20 = .ok (.iaload, 1) := by decide +kernel
theorem drf_Md_areOne_21 : decode rfb_Md_areOne 21 = .ok (.aload_n 0, 1) := by decide +kernel
theorem drf_Md_areOne_22 : decode rfb_Md_areOne 22 = .ok (.getfield 25, 3) := by decide +kernel
theorem drf_Md_areOne_25 : decode rfb_Md_areOne 25 = .ok (.iload_n 2, 1) := by decide +kernel
theorem drf_Md_areOne_26 : decode rfb_Md_areOne 26 = .ok (.iaload, 1) := by decide +kernel
theorem drf_Md_areOne_27 : decode rfb_Md_areOne 27 = .ok (.if_icmp .ne 22, 3) := by decide +kernel
theorem drf_Md_areOne_30 : decode rfb_Md_areOne 30 = .ok (.aload_n 0, 1) := by decide +kernel
theorem drf_Md_areOne_31 : decode rfb_Md_areOne 31 = .ok (.getfield 7, 3) := by decide +kernel
theorem drf_Md_areOne_34 : decode rfb_Md_areOne 34 = .ok (.iload_n 1, 1) := by decide +kernel
theorem drf_Md_areOne_35 : decode rfb_Md_areOne 35 = .ok (.iaload, 1) := by decide +kernel
theorem drf_Md_areOne_36 : decode rfb_Md_areOne 36 = .ok (.aload_n 0, 1) := by decide +kernel
theorem drf_Md_areOne_37 : decode rfb_Md_areOne 37 = .ok (.getfield 7, 3) := by decide +kernel
theorem drf_Md_areOne_40 : decode rfb_Md_areOne 40 = .ok (.iload_n 2, 1) := by decide +kernel
theorem drf_Md_areOne_41 : decode rfb_Md_areOne 41 = .ok (.iaload, 1) := by decide +kernel
theorem drf_Md_areOne_42 : decode rfb_Md_areOne 42 = .ok (.if_icmp .ne 7, 3) := by decide +kernel
theorem drf_Md_areOne_45 : decode rfb_Md_areOne 45 = .ok (.iconst 1, 1) := by decide +kernel
theorem drf_Md_areOne_46 : decode rfb_Md_areOne 46 = .ok (.goto 4, 3) := by decide +kernel
theorem drf_Md_areOne_49 : decode rfb_Md_areOne 49 = .ok (.iconst 0, 1) := by decide +kernel
theorem drf_Md_areOne_50 : decode rfb_Md_areOne 50 = .ok (.ireturn, 1) := by decide +kernel
theorem drf_Md_chiefOf_0 : decode rfb_Md_chiefOf 0 = .ok (.iconst 0, 1) := by decide +kernel
theorem drf_Md_chiefOf_1 : decode rfb_Md_chiefOf 1 = .ok (.istore_n 2, 1) := by decide +kernel
theorem drf_Md_chiefOf_2 : decode rfb_Md_chiefOf 2 = .ok (.aload_n 0, 1) := by decide +kernel
theorem drf_Md_chiefOf_3 : decode rfb_Md_chiefOf 3 = .ok (.iload_n 2, 1) := by decide +kernel
theorem drf_Md_chiefOf_4 : decode rfb_Md_chiefOf 4 = .ok (.iload_n 1, 1) := by decide +kernel
theorem drf_Md_chiefOf_5 : decode rfb_Md_chiefOf 5 = .ok (.invokevirtual 89, 3) := by decide +kernel
theorem drf_Md_chiefOf_8 : decode rfb_Md_chiefOf 8 = .ok (.ifCond .ne 9, 3) := by decide +kernel
theorem drf_Md_chiefOf_11 : decode rfb_Md_chiefOf 11 = .ok (.iinc 2 1, 3) := by decide +kernel
theorem drf_Md_chiefOf_14 : decode rfb_Md_chiefOf 14 = .ok (.goto (-12), 3) := by decide +kernel
theorem drf_Md_chiefOf_17 : decode rfb_Md_chiefOf 17 = .ok (.iload_n 2, 1) := by decide +kernel
theorem drf_Md_chiefOf_18 : decode rfb_Md_chiefOf 18 = .ok (.ireturn, 1) := by decide +kernel
theorem drf_Md_chief_0 : decode rfb_Md_chief 0 = .ok (.aload_n 0, 1) := by decide +kernel
theorem drf_Md_chief_1 : decode rfb_Md_chief 1 = .ok (.iconst 0, 1) := by decide +kernel
theorem drf_Md_chief_2 : decode rfb_Md_chief 2 = .ok (.putfield 68, 3) := by decide +kernel
theorem drf_Md_chief_5 : decode rfb_Md_chief 5 = .ok (.aload_n 0, 1) := by decide +kernel
theorem drf_Md_chief_6 : decode rfb_Md_chief 6 = .ok (.iload_n 1, 1) := by decide +kernel
theorem drf_Md_chief_7 : decode rfb_Md_chief 7 = .ok (.invokevirtual 74, 3) := by decide +kernel
theorem drf_Md_chief_10 : decode rfb_Md_chief 10 = .ok (.ifCond .eq 11, 3) := by decide +kernel
theorem drf_Md_chief_13 : decode rfb_Md_chief 13 = .ok (.aload_n 0, 1) := by decide +kernel
theorem drf_Md_chief_14 : decode rfb_Md_chief 14 = .ok (.iload_n 1, 1) := by decide +kernel
theorem drf_Md_chief_15 : decode rfb_Md_chief 15 = .ok (.invokevirtual 92, 3) := by decide +kernel
theorem drf_Md_chief_18 : decode rfb_Md_chief 18 = .ok (.goto 4, 3) := by decide +kernel
theorem drf_Md_chief_21 : decode rfb_Md_chief 21 = .ok (.iconst (-1), 1) := by decide +kernel
theorem drf_Md_chief_22 : decode rfb_Md_chief 22 = .ok (.ireturn, 1) := by decide +kernel
theorem drf_Md_wanting_0 : decode rfb_Md_wanting 0 = .ok (.iconst 0, 1) := by decide +kernel
theorem drf_Md_wanting_1 : decode rfb_Md_wanting 1 = .ok (.istore_n 1, 1) := by decide +kernel
theorem drf_Md_wanting_2 : decode rfb_Md_wanting 2 = .ok (.iload_n 1, 1) := by decide +kernel
theorem drf_Md_wanting_3 : decode rfb_Md_wanting 3 = .ok (.aload_n 0, 1) := by decide +kernel
theorem drf_Md_wanting_4 : decode rfb_Md_wanting 4 = .ok (.getfield 71, 3) := by decide +kernel
theorem drf_Md_wanting_7 : decode rfb_Md_wanting 7 = .ok (.if_icmp .ge 68, 3) := by decide +kernel
theorem drf_Md_wanting_10 : decode rfb_Md_wanting 10 = .ok (.bipush 8, 2) := by decide +kernel
theorem drf_Md_wanting_12 : decode rfb_Md_wanting 12 = .ok (.iload_n 1, 1) := by decide +kernel
theorem drf_Md_wanting_13 : decode rfb_Md_wanting 13 = .ok (.imul, 1) := by decide +kernel
theorem drf_Md_wanting_14 : decode rfb_Md_wanting 14 = .ok (.aload_n 0, 1) := by decide +kernel
theorem drf_Md_wanting_15 : decode rfb_Md_wanting 15 = .ok (.getfield 43, 3) := by decide +kernel
theorem drf_Md_wanting_18 : decode rfb_Md_wanting 18 = .ok (.iload_n 1, 1) := by decide +kernel
theorem drf_Md_wanting_19 : decode rfb_Md_wanting 19 = .ok (.iaload, 1) := by decide +kernel
theorem drf_Md_wanting_20 : decode rfb_Md_wanting 20 = .ok (.iadd, 1) := by decide +kernel
theorem drf_Md_wanting_21 : decode rfb_Md_wanting 21 = .ok (.istore_n 2, 1) := by decide +kernel
theorem drf_Md_wanting_22 : decode rfb_Md_wanting 22 = .ok (.aload_n 0, 1) := by decide +kernel
theorem drf_Md_wanting_23 : decode rfb_Md_wanting 23 = .ok (.getfield 43, 3) := by decide +kernel
theorem drf_Md_wanting_26 : decode rfb_Md_wanting 26 = .ok (.iload_n 1, 1) := by decide +kernel
theorem drf_Md_wanting_27 : decode rfb_Md_wanting 27 = .ok (.iaload, 1) := by decide +kernel
theorem drf_Md_wanting_28 : decode rfb_Md_wanting 28 = .ok (.aload_n 0, 1) := by decide +kernel
theorem drf_Md_wanting_29 : decode rfb_Md_wanting 29 = .ok (.getfield 16, 3) := by decide +kernel
theorem drf_Md_wanting_32 : decode rfb_Md_wanting 32 = .ok (.iload_n 1, 1) := by decide +kernel
theorem drf_Md_wanting_33 : decode rfb_Md_wanting 33 = .ok (.iaload, 1) := by decide +kernel
theorem drf_Md_wanting_34 : decode rfb_Md_wanting 34 = .ok (.if_icmp .le 35, 3) := by decide +kernel
theorem drf_Md_wanting_37 : decode rfb_Md_wanting 37 = .ok (.aload_n 0, 1) := by decide +kernel
theorem drf_Md_wanting_38 : decode rfb_Md_wanting 38 = .ok (.getfield 37, 3) := by decide +kernel
theorem drf_Md_wanting_41 : decode rfb_Md_wanting 41 = .ok (.iload_n 2, 1) := by decide +kernel
theorem drf_Md_wanting_42 : decode rfb_Md_wanting 42 = .ok (.iaload, 1) := by decide +kernel
theorem drf_Md_wanting_43 : decode rfb_Md_wanting 43 = .ok (.iconst (-1), 1) := by decide +kernel
theorem drf_Md_wanting_44 : decode rfb_Md_wanting 44 = .ok (.if_icmp .eq 25, 3) := by decide +kernel
theorem drf_Md_wanting_47 : decode rfb_Md_wanting 47 = .ok (.aload_n 0, 1) := by decide +kernel
theorem drf_Md_wanting_48 : decode rfb_Md_wanting 48 = .ok (.getfield 40, 3) := by decide +kernel
theorem drf_Md_wanting_51 : decode rfb_Md_wanting 51 = .ok (.iload_n 2, 1) := by decide +kernel
theorem drf_Md_wanting_52 : decode rfb_Md_wanting 52 = .ok (.iaload, 1) := by decide +kernel
theorem drf_Md_wanting_53 : decode rfb_Md_wanting 53 = .ok (.aload_n 0, 1) := by decide +kernel
theorem drf_Md_wanting_54 : decode rfb_Md_wanting 54 = .ok (.getfield 43, 3) := by decide +kernel
theorem drf_Md_wanting_57 : decode rfb_Md_wanting 57 = .ok (.aload_n 0, 1) := by decide +kernel
theorem drf_Md_wanting_58 : decode rfb_Md_wanting 58 = .ok (.getfield 37, 3) := by decide +kernel
theorem drf_Md_wanting_61 : decode rfb_Md_wanting 61 = .ok (.iload_n 2, 1) := by decide +kernel
theorem drf_Md_wanting_62 : decode rfb_Md_wanting 62 = .ok (.iaload, 1) := by decide +kernel
theorem drf_Md_wanting_63 : decode rfb_Md_wanting 63 = .ok (.iaload, 1) := by decide +kernel
theorem drf_Md_wanting_64 : decode rfb_Md_wanting 64 = .ok (.if_icmp .le 5, 3) := by decide +kernel
theorem drf_Md_wanting_67 : decode rfb_Md_wanting 67 = .ok (.iload_n 1, 1) := by decide +kernel
theorem drf_Md_wanting_68 : decode rfb_Md_wanting 68 = .ok (.ireturn, 1) := by decide +kernel
theorem drf_Md_wanting_69 : decode rfb_Md_wanting 69 = .ok (.iinc 1 1, 3) := by decide +kernel
theorem drf_Md_wanting_72 : decode rfb_Md_wanting 72 = .ok (.goto (-70), 3) := by decide +kernel
theorem drf_Md_wanting_75 : decode rfb_Md_wanting 75 = .ok (.iconst (-1), 1) := by decide +kernel
theorem drf_Md_wanting_76 : decode rfb_Md_wanting 76 = .ok (.ireturn, 1) := by decide +kernel
theorem drf_Md_find_0 : decode rfb_Md_find 0 = .ok (.iconst 0, 1) := by decide +kernel
theorem drf_Md_find_1 : decode rfb_Md_find 1 = .ok (.istore_n 2, 1) := by decide +kernel
theorem drf_Md_find_2 : decode rfb_Md_find 2 = .ok (.iload_n 2, 1) := by decide +kernel
theorem drf_Md_find_3 : decode rfb_Md_find 3 = .ok (.aload_n 0, 1) := by decide +kernel
theorem drf_Md_find_4 : decode rfb_Md_find 4 = .ok (.getfield 71, 3) := by decide +kernel
theorem drf_Md_find_7 : decode rfb_Md_find 7 = .ok (.if_icmp .ge 38, 3) := by decide +kernel
theorem drf_Md_find_10 : decode rfb_Md_find 10 = .ok (.aload_n 0, 1) := by decide +kernel
theorem drf_Md_find_11 : decode rfb_Md_find 11 = .ok (.getfield 43, 3) := by decide +kernel
theorem drf_Md_find_14 : decode rfb_Md_find 14 = .ok (.iload_n 2, 1) := by decide +kernel
theorem drf_Md_find_15 : decode rfb_Md_find 15 = .ok (.aload_n 0, 1) := by decide +kernel
theorem drf_Md_find_16 : decode rfb_Md_find 16 = .ok (.iload_n 2, 1) := by decide +kernel
theorem drf_Md_find_17 : decode rfb_Md_find 17 = .ok (.iload_n 1, 1) := by decide +kernel
theorem drf_Md_find_18 : decode rfb_Md_find 18 = .ok (.invokevirtual 89, 3) := by decide +kernel
theorem drf_Md_find_21 : decode rfb_Md_find 21 = .ok (.ifCond .eq 11, 3) := by decide +kernel
theorem drf_Md_find_24 : decode rfb_Md_find 24 = .ok (.aload_n 0, 1) := by decide +kernel
theorem drf_Md_find_25 : decode rfb_Md_find 25 = .ok (.iload_n 2, 1) := by decide +kernel
theorem drf_Md_find_26 : decode rfb_Md_find 26 = .ok (.invokevirtual 85, 3) := by decide +kernel
theorem drf_Md_find_29 : decode rfb_Md_find 29 = .ok (.goto 9, 3) := by decide +kernel
theorem drf_Md_find_32 : decode rfb_Md_find 32 = .ok (.aload_n 0, 1) := by decide +kernel
theorem drf_Md_find_33 : decode rfb_Md_find 33 = .ok (.getfield 16, 3) := by decide +kernel
theorem drf_Md_find_36 : decode rfb_Md_find 36 = .ok (.iload_n 2, 1) := by decide +kernel
theorem drf_Md_find_37 : decode rfb_Md_find 37 = .ok (.iaload, 1) := by decide +kernel
theorem drf_Md_find_38 : decode rfb_Md_find 38 = .ok (.iastore, 1) := by decide +kernel
theorem drf_Md_find_39 : decode rfb_Md_find 39 = .ok (.iinc 2 1, 3) := by decide +kernel
theorem drf_Md_find_42 : decode rfb_Md_find 42 = .ok (.goto (-40), 3) := by decide +kernel
theorem drf_Md_find_45 : decode rfb_Md_find 45 = .ok (.aload_n 0, 1) := by decide +kernel
theorem drf_Md_find_46 : decode rfb_Md_find 46 = .ok (.invokevirtual 95, 3) := by decide +kernel
theorem drf_Md_find_49 : decode rfb_Md_find 49 = .ok (.istore_n 2, 1) := by decide +kernel
theorem drf_Md_find_50 : decode rfb_Md_find 50 = .ok (.iload_n 2, 1) := by decide +kernel
theorem drf_Md_find_51 : decode rfb_Md_find 51 = .ok (.iconst (-1), 1) := by decide +kernel
theorem drf_Md_find_52 : decode rfb_Md_find 52 = .ok (.if_icmp .eq 71, 3) := by decide +kernel
theorem drf_Md_find_55 : decode rfb_Md_find 55 = .ok (.bipush 8, 2) := by decide +kernel
theorem drf_Md_find_57 : decode rfb_Md_find 57 = .ok (.iload_n 2, 1) := by decide +kernel
theorem drf_Md_find_58 : decode rfb_Md_find 58 = .ok (.imul, 1) := by decide +kernel
theorem drf_Md_find_59 : decode rfb_Md_find 59 = .ok (.aload_n 0, 1) := by decide +kernel
theorem drf_Md_find_60 : decode rfb_Md_find 60 = .ok (.getfield 43, 3) := by decide +kernel
theorem drf_Md_find_63 : decode rfb_Md_find 63 = .ok (.iload_n 2, 1) := by decide +kernel
theorem drf_Md_find_64 : decode rfb_Md_find 64 = .ok (.iaload, 1) := by decide +kernel
theorem drf_Md_find_65 : decode rfb_Md_find 65 = .ok (.iadd, 1) := by decide +kernel
theorem drf_Md_find_66 : decode rfb_Md_find 66 = .ok (.istore_n 3, 1) := by decide +kernel
theorem drf_Md_find_67 : decode rfb_Md_find 67 = .ok (.aload_n 0, 1) := by decide +kernel
theorem drf_Md_find_68 : decode rfb_Md_find 68 = .ok (.aload_n 0, 1) := by decide +kernel
theorem drf_Md_find_69 : decode rfb_Md_find 69 = .ok (.getfield 37, 3) := by decide +kernel
theorem drf_Md_find_72 : decode rfb_Md_find 72 = .ok (.iload_n 3, 1) := by decide +kernel
theorem drf_Md_find_73 : decode rfb_Md_find 73 = .ok (.iaload, 1) := by decide +kernel
theorem drf_Md_find_74 : decode rfb_Md_find 74 = .ok (.aload_n 0, 1) := by decide +kernel
theorem drf_Md_find_75 : decode rfb_Md_find 75 = .ok (.getfield 40, 3) := by decide +kernel
theorem drf_Md_find_78 : decode rfb_Md_find 78 = .ok (.iload_n 3, 1) := by decide +kernel
theorem drf_Md_find_79 : decode rfb_Md_find 79 = .ok (.iaload, 1) := by decide +kernel
theorem drf_Md_find_80 : decode rfb_Md_find 80 = .ok (.invokevirtual 78, 3) := by decide +kernel
theorem drf_Md_find_83 : decode rfb_Md_find 83 = .ok (.ifCond .ne 15, 3) := by decide +kernel
theorem drf_Md_find_86 : decode rfb_Md_find 86 = .ok (.aload_n 0, 1) := by decide +kernel
theorem drf_Md_find_87 : decode rfb_Md_find 87 = .ok (.aload_n 0, 1) := by decide +kernel
theorem drf_Md_find_88 : decode rfb_Md_find 88 = .ok (.getfield 37, 3) := by decide +kernel
theorem drf_Md_find_91 : decode rfb_Md_find 91 = .ok (.iload_n 3, 1) := by decide +kernel
theorem drf_Md_find_92 : decode rfb_Md_find 92 = .ok (.iaload, 1) := by decide +kernel
theorem drf_Md_find_93 : decode rfb_Md_find 93 = .ok (.putfield 99, 3) := by decide +kernel
theorem drf_Md_find_96 : decode rfb_Md_find 96 = .ok (.iconst (-1), 1) := by decide +kernel
theorem drf_Md_find_97 : decode rfb_Md_find 97 = .ok (.ireturn, 1) := by decide +kernel
theorem drf_Md_find_98 : decode rfb_Md_find 98 = .ok (.aload_n 0, 1) := by decide +kernel
theorem drf_Md_find_99 : decode rfb_Md_find 99 = .ok (.getfield 43, 3) := by decide +kernel
theorem drf_Md_find_102 : decode rfb_Md_find 102 = .ok (.aload_n 0, 1) := by decide +kernel
theorem drf_Md_find_103 : decode rfb_Md_find 103 = .ok (.getfield 37, 3) := by decide +kernel
theorem drf_Md_find_106 : decode rfb_Md_find 106 = .ok (.iload_n 3, 1) := by decide +kernel
theorem drf_Md_find_107 : decode rfb_Md_find 107 = .ok (.iaload, 1) := by decide +kernel
theorem drf_Md_find_108 : decode rfb_Md_find 108 = .ok (.aload_n 0, 1) := by decide +kernel
theorem drf_Md_find_109 : decode rfb_Md_find 109 = .ok (.getfield 40, 3) := by decide +kernel
theorem drf_Md_find_112 : decode rfb_Md_find 112 = .ok (.iload_n 3, 1) := by decide +kernel
theorem drf_Md_find_113 : decode rfb_Md_find 113 = .ok (.iaload, 1) := by decide +kernel
theorem drf_Md_find_114 : decode rfb_Md_find 114 = .ok (.iastore, 1) := by decide +kernel
theorem drf_Md_find_115 : decode rfb_Md_find 115 = .ok (.aload_n 0, 1) := by decide +kernel
theorem drf_Md_find_116 : decode rfb_Md_find 116 = .ok (.invokevirtual 95, 3) := by decide +kernel
theorem drf_Md_find_119 : decode rfb_Md_find 119 = .ok (.istore_n 2, 1) := by decide +kernel
theorem drf_Md_find_120 : decode rfb_Md_find 120 = .ok (.goto (-70), 3) := by decide +kernel
theorem drf_Md_find_123 : decode rfb_Md_find 123 = .ok (.iconst 0, 1) := by decide +kernel
theorem drf_Md_find_124 : decode rfb_Md_find 124 = .ok (.istore_n 2, 1) := by decide +kernel
theorem drf_Md_find_125 : decode rfb_Md_find 125 = .ok (.iconst 0, 1) := by decide +kernel
theorem drf_Md_find_126 : decode rfb_Md_find 126 = .ok (.istore_n 3, 1) := by decide +kernel
theorem drf_Md_find_127 : decode rfb_Md_find 127 = .ok (.iload_n 3, 1) := by decide +kernel
theorem drf_Md_find_128 : decode rfb_Md_find 128 = .ok (.aload_n 0, 1) := by decide +kernel
theorem drf_Md_find_129 : decode rfb_Md_find 129 = .ok (.getfield 71, 3) := by decide +kernel
theorem drf_Md_find_132 : decode rfb_Md_find 132 = .ok (.if_icmp .ge 32, 3) := by decide +kernel
theorem drf_Md_find_135 : decode rfb_Md_find 135 = .ok (.iload_n 2, 1) := by decide +kernel
theorem drf_Md_find_136 : decode rfb_Md_find 136 = .ok (.aload_n 0, 1) := by decide +kernel
theorem drf_Md_find_137 : decode rfb_Md_find 137 = .ok (.getfield 43, 3) := by decide +kernel
theorem drf_Md_find_140 : decode rfb_Md_find 140 = .ok (.iload_n 3, 1) := by decide +kernel
theorem drf_Md_find_141 : decode rfb_Md_find 141 = .ok (.iaload, 1) := by decide +kernel
theorem drf_Md_find_142 : decode rfb_Md_find 142 = .ok (.aload_n 0, 1) := by decide +kernel
theorem drf_Md_find_143 : decode rfb_Md_find 143 = .ok (.getfield 16, 3) := by decide +kernel
theorem drf_Md_find_146 : decode rfb_Md_find 146 = .ok (.iload_n 3, 1) := by decide +kernel
theorem drf_Md_find_147 : decode rfb_Md_find 147 = .ok (.iaload, 1) := by decide +kernel
theorem drf_Md_find_148 : decode rfb_Md_find 148 = .ok (.if_icmp .le 7, 3) := by decide +kernel
theorem drf_Md_find_151 : decode rfb_Md_find 151 = .ok (.iconst 1, 1) := by decide +kernel
theorem drf_Md_find_152 : decode rfb_Md_find 152 = .ok (.goto 4, 3) := by decide +kernel
theorem drf_Md_find_155 : decode rfb_Md_find 155 = .ok (.iconst 0, 1) := by decide +kernel
theorem drf_Md_find_156 : decode rfb_Md_find 156 = .ok (.iadd, 1) := by decide +kernel
theorem drf_Md_find_157 : decode rfb_Md_find 157 = .ok (.istore_n 2, 1) := by decide +kernel
theorem drf_Md_find_158 : decode rfb_Md_find 158 = .ok (.iinc 3 1, 3) := by decide +kernel
theorem drf_Md_find_161 : decode rfb_Md_find 161 = .ok (.goto (-34), 3) := by decide +kernel
theorem drf_Md_find_164 : decode rfb_Md_find 164 = .ok (.iload_n 2, 1) := by decide +kernel
theorem drf_Md_find_165 : decode rfb_Md_find 165 = .ok (.ireturn, 1) := by decide +kernel
theorem drf_Md_solve_0 : decode rfb_Md_solve 0 = .ok (.aload_n 0, 1) := by decide +kernel
theorem drf_Md_solve_1 : decode rfb_Md_solve 1 = .ok (.iconst 0, 1) := by decide +kernel
theorem drf_Md_solve_2 : decode rfb_Md_solve 2 = .ok (.putfield 68, 3) := by decide +kernel
theorem drf_Md_solve_5 : decode rfb_Md_solve 5 = .ok (.aload_n 0, 1) := by decide +kernel
theorem drf_Md_solve_6 : decode rfb_Md_solve 6 = .ok (.iload_n 1, 1) := by decide +kernel
theorem drf_Md_solve_7 : decode rfb_Md_solve 7 = .ok (.invokevirtual 74, 3) := by decide +kernel
theorem drf_Md_solve_10 : decode rfb_Md_solve 10 = .ok (.ifCond .eq 12, 3) := by decide +kernel
theorem drf_Md_solve_13 : decode rfb_Md_solve 13 = .ok (.aload_n 0, 1) := by decide +kernel
theorem drf_Md_solve_14 : decode rfb_Md_solve 14 = .ok (.iload_n 1, 1) := by decide +kernel
theorem drf_Md_solve_15 : decode rfb_Md_solve 15 = .ok (.invokevirtual 92, 3) := by decide +kernel
theorem drf_Md_solve_18 : decode rfb_Md_solve 18 = .ok (.iload_n 1, 1) := by decide +kernel
theorem drf_Md_solve_19 : decode rfb_Md_solve 19 = .ok (.if_icmp .eq 5, 3) := by decide +kernel
theorem drf_Md_solve_22 : decode rfb_Md_solve 22 = .ok (.iconst (-1), 1) := by decide +kernel
theorem drf_Md_solve_23 : decode rfb_Md_solve 23 = .ok (.ireturn, 1) := by decide +kernel
theorem drf_Md_solve_24 : decode rfb_Md_solve 24 = .ok (.aload_n 0, 1) := by decide +kernel
theorem drf_Md_solve_25 : decode rfb_Md_solve 25 = .ok (.iload_n 1, 1) := by decide +kernel
theorem drf_Md_solve_26 : decode rfb_Md_solve 26 = .ok (.invokevirtual 102, 3) := by decide +kernel
theorem drf_Md_solve_29 : decode rfb_Md_solve 29 = .ok (.istore_n 2, 1) := by decide +kernel
theorem drf_Md_solve_30 : decode rfb_Md_solve 30 = .ok (.iload_n 2, 1) := by decide +kernel
theorem drf_Md_solve_31 : decode rfb_Md_solve 31 = .ok (.iconst (-1), 1) := by decide +kernel
theorem drf_Md_solve_32 : decode rfb_Md_solve 32 = .ok (.if_icmp .ne 13, 3) := by decide +kernel
theorem drf_Md_solve_35 : decode rfb_Md_solve 35 = .ok (.bipush (-2), 2) := by decide +kernel
theorem drf_Md_solve_37 : decode rfb_Md_solve 37 = .ok (.aload_n 0, 1) := by decide +kernel
theorem drf_Md_solve_38 : decode rfb_Md_solve 38 = .ok (.getfield 99, 3) := by decide +kernel
theorem drf_Md_solve_41 : decode rfb_Md_solve 41 = .ok (.isub, 1) := by decide +kernel
theorem drf_Md_solve_42 : decode rfb_Md_solve 42 = .ok (.goto 4, 3) := by decide +kernel
theorem drf_Md_solve_45 : decode rfb_Md_solve 45 = .ok (.iload_n 2, 1) := by decide +kernel
theorem drf_Md_solve_46 : decode rfb_Md_solve 46 = .ok (.ireturn, 1) := by decide +kernel
theorem drf_Md_tick_0 : decode rfb_Md_tick 0 = .ok (.aload_n 0, 1) := by decide +kernel
theorem drf_Md_tick_1 : decode rfb_Md_tick 1 = .ok (.iconst 0, 1) := by decide +kernel
theorem drf_Md_tick_2 : decode rfb_Md_tick 2 = .ok (.putfield 68, 3) := by decide +kernel
theorem drf_Md_tick_5 : decode rfb_Md_tick 5 = .ok (.iload_n 1, 1) := by decide +kernel
theorem drf_Md_tick_6 : decode rfb_Md_tick 6 = .ok (.ifCond .lt 20, 3) := by decide +kernel
theorem drf_Md_tick_9 : decode rfb_Md_tick 9 = .ok (.iload_n 1, 1) := by decide +kernel
theorem drf_Md_tick_10 : decode rfb_Md_tick 10 = .ok (.ldc 105, 2) := by decide +kernel
theorem drf_Md_tick_12 : decode rfb_Md_tick 12 = .ok (.if_icmp .gt 14, 3) := by decide +kernel
theorem drf_Md_tick_15 : decode rfb_Md_tick 15 = .ok (.aload_n 0, 1) := by decide +kernel
theorem drf_Md_tick_16 : decode rfb_Md_tick 16 = .ok (.getfield 106, 3) := by decide +kernel
theorem drf_Md_tick_19 : decode rfb_Md_tick 19 = .ok (.iload_n 1, 1) := by decide +kernel
theorem drf_Md_tick_20 : decode rfb_Md_tick 20 = .ok (.iadd, 1) := by decide +kernel
theorem drf_Md_tick_21 : decode rfb_Md_tick 21 = .ok (.ldc 109, 2) := by decide +kernel
theorem drf_Md_tick_23 : decode rfb_Md_tick 23 = .ok (.if_icmp .le 5, 3) := by decide +kernel
theorem drf_Md_tick_26 : decode rfb_Md_tick 26 = .ok (.iconst (-1), 1) := by decide +kernel
theorem drf_Md_tick_27 : decode rfb_Md_tick 27 = .ok (.ireturn, 1) := by decide +kernel
theorem drf_Md_tick_28 : decode rfb_Md_tick 28 = .ok (.aload_n 0, 1) := by decide +kernel
theorem drf_Md_tick_29 : decode rfb_Md_tick 29 = .ok (.dup, 1) := by decide +kernel
theorem drf_Md_tick_30 : decode rfb_Md_tick 30 = .ok (.getfield 106, 3) := by decide +kernel
theorem drf_Md_tick_33 : decode rfb_Md_tick 33 = .ok (.iload_n 1, 1) := by decide +kernel
theorem drf_Md_tick_34 : decode rfb_Md_tick 34 = .ok (.iadd, 1) := by decide +kernel
theorem drf_Md_tick_35 : decode rfb_Md_tick 35 = .ok (.putfield 106, 3) := by decide +kernel
theorem drf_Md_tick_38 : decode rfb_Md_tick 38 = .ok (.aload_n 0, 1) := by decide +kernel
theorem drf_Md_tick_39 : decode rfb_Md_tick 39 = .ok (.getfield 106, 3) := by decide +kernel
theorem drf_Md_tick_42 : decode rfb_Md_tick 42 = .ok (.ireturn, 1) := by decide +kernel
theorem drf_Md_raised_0 : decode rfb_Md_raised 0 = .ok (.aload_n 0, 1) := by decide +kernel
theorem drf_Md_raised_1 : decode rfb_Md_raised 1 = .ok (.getfield 43, 3) := by decide +kernel
theorem drf_Md_raised_4 : decode rfb_Md_raised 4 = .ok (.iload_n 1, 1) := by decide +kernel
theorem drf_Md_raised_5 : decode rfb_Md_raised 5 = .ok (.iaload, 1) := by decide +kernel
theorem drf_Md_raised_6 : decode rfb_Md_raised 6 = .ok (.aload_n 0, 1) := by decide +kernel
theorem drf_Md_raised_7 : decode rfb_Md_raised 7 = .ok (.getfield 16, 3) := by decide +kernel
theorem drf_Md_raised_10 : decode rfb_Md_raised 10 = .ok (.iload_n 1, 1) := by decide +kernel
theorem drf_Md_raised_11 : decode rfb_Md_raised 11 = .ok (.iaload, 1) := by decide +kernel
theorem drf_Md_raised_12 : decode rfb_Md_raised 12 = .ok (.if_icmp .le 12, 3) := by decide +kernel
end
section
theorem drf_Md_raised_15 : decode rfb_Md_raised 15 = .ok (.aload_n 0, 1) := by decide +kernel
theorem drf_Md_raised_16 : decode rfb_Md_raised 16 = .ok (.getfield 43, 3) := by decide +kernel
theorem drf_Md_raised_19 : decode rfb_Md_raised 19 = .ok (.iload_n 1, 1) := by decide +kernel
theorem drf_Md_raised_20 : decode rfb_Md_raised 20 = .ok (.iaload, 1) := by decide +kernel
theorem drf_Md_raised_21 : decode rfb_Md_raised 21 = .ok (.goto 4, 3) := by decide +kernel
theorem drf_Md_raised_24 : decode rfb_Md_raised 24 = .ok (.iconst (-1), 1) := by decide +kernel
theorem drf_Md_raised_25 : decode rfb_Md_raised 25 = .ok (.ireturn, 1) := by decide +kernel
theorem drf_Md_isSame_0 : decode rfb_Md_isSame 0 = .ok (.iconst 1, 1) := by decide +kernel
theorem drf_Md_isSame_1 : decode rfb_Md_isSame 1 = .ok (.istore_n 2, 1) := by decide +kernel
theorem drf_Md_isSame_2 : decode rfb_Md_isSame 2 = .ok (.iconst 0, 1) := by decide +kernel
theorem drf_Md_isSame_3 : decode rfb_Md_isSame 3 = .ok (.istore_n 3, 1) := by decide +kernel
theorem drf_Md_isSame_4 : decode rfb_Md_isSame 4 = .ok (.iload_n 3, 1) := by decide +kernel
theorem drf_Md_isSame_5 : decode rfb_Md_isSame 5 = .ok (.aload_n 0, 1) := by decide +kernel
theorem drf_Md_isSame_6 : decode rfb_Md_isSame 6 = .ok (.getfield 71, 3) := by decide +kernel
theorem drf_Md_isSame_9 : decode rfb_Md_isSame 9 = .ok (.if_icmp .ge 38, 3) := by decide +kernel
theorem drf_Md_isSame_12 : decode rfb_Md_isSame 12 = .ok (.iload_n 2, 1) := by decide +kernel
theorem drf_Md_isSame_13 : decode rfb_Md_isSame 13 = .ok (.ifCond .eq 26, 3) := by decide +kernel
theorem drf_Md_isSame_16 : decode rfb_Md_isSame 16 = .ok (.aload_n 0, 1) := by decide +kernel
theorem drf_Md_isSame_17 : decode rfb_Md_isSame 17 = .ok (.getfield 61, 3) := by decide +kernel
theorem drf_Md_isSame_20 : decode rfb_Md_isSame 20 = .ok (.bipush 12, 2) := by decide +kernel
theorem drf_Md_isSame_22 : decode rfb_Md_isSame 22 = .ok (.iload_n 1, 1) := by decide +kernel
theorem drf_Md_isSame_23 : decode rfb_Md_isSame 23 = .ok (.imul, 1) := by decide +kernel
theorem drf_Md_isSame_24 : decode rfb_Md_isSame 24 = .ok (.iload_n 3, 1) := by decide +kernel
theorem drf_Md_isSame_25 : decode rfb_Md_isSame 25 = .ok (.iadd, 1) := by decide +kernel
theorem drf_Md_isSame_26 : decode rfb_Md_isSame 26 = .ok (.iaload, 1) := by decide +kernel
theorem drf_Md_isSame_27 : decode rfb_Md_isSame 27 = .ok (.aload_n 0, 1) := by decide +kernel
theorem drf_Md_isSame_28 : decode rfb_Md_isSame 28 = .ok (.iload_n 3, 1) := by decide +kernel
theorem drf_Md_isSame_29 : decode rfb_Md_isSame 29 = .ok (.invokevirtual 110, 3) := by decide +kernel
theorem drf_Md_isSame_32 : decode rfb_Md_isSame 32 = .ok (.if_icmp .ne 7, 3) := by decide +kernel
theorem drf_Md_isSame_35 : decode rfb_Md_isSame 35 = .ok (.iconst 1, 1) := by decide +kernel
theorem drf_Md_isSame_36 : decode rfb_Md_isSame 36 = .ok (.goto 4, 3) := by decide +kernel
theorem drf_Md_isSame_39 : decode rfb_Md_isSame 39 = .ok (.iconst 0, 1) := by decide +kernel
theorem drf_Md_isSame_40 : decode rfb_Md_isSame 40 = .ok (.istore_n 2, 1) := by decide +kernel
theorem drf_Md_isSame_41 : decode rfb_Md_isSame 41 = .ok (.iinc 3 1, 3) := by decide +kernel
theorem drf_Md_isSame_44 : decode rfb_Md_isSame 44 = .ok (.goto (-40), 3) := by decide +kernel
theorem drf_Md_isSame_47 : decode rfb_Md_isSame 47 = .ok (.iload_n 2, 1) := by decide +kernel
theorem drf_Md_isSame_48 : decode rfb_Md_isSame 48 = .ok (.ireturn, 1) := by decide +kernel
theorem drf_Md_fill_0 : decode rfb_Md_fill 0 = .ok (.iconst 0, 1) := by decide +kernel
theorem drf_Md_fill_1 : decode rfb_Md_fill 1 = .ok (.istore_n 2, 1) := by decide +kernel
theorem drf_Md_fill_2 : decode rfb_Md_fill 2 = .ok (.iload_n 2, 1) := by decide +kernel
theorem drf_Md_fill_3 : decode rfb_Md_fill 3 = .ok (.bipush 12, 2) := by decide +kernel
theorem drf_Md_fill_5 : decode rfb_Md_fill 5 = .ok (.if_icmp .ge 37, 3) := by decide +kernel
theorem drf_Md_fill_8 : decode rfb_Md_fill 8 = .ok (.aload_n 0, 1) := by decide +kernel
theorem drf_Md_fill_9 : decode rfb_Md_fill 9 = .ok (.getfield 61, 3) := by decide +kernel
theorem drf_Md_fill_12 : decode rfb_Md_fill 12 = .ok (.bipush 12, 2) := by decide +kernel
theorem drf_Md_fill_14 : decode rfb_Md_fill 14 = .ok (.iload_n 1, 1) := by decide +kernel
theorem drf_Md_fill_15 : decode rfb_Md_fill 15 = .ok (.imul, 1) := by decide +kernel
theorem drf_Md_fill_16 : decode rfb_Md_fill 16 = .ok (.iload_n 2, 1) := by decide +kernel
theorem drf_Md_fill_17 : decode rfb_Md_fill 17 = .ok (.iadd, 1) := by decide +kernel
theorem drf_Md_fill_18 : decode rfb_Md_fill 18 = .ok (.iload_n 2, 1) := by decide +kernel
theorem drf_Md_fill_19 : decode rfb_Md_fill 19 = .ok (.aload_n 0, 1) := by decide +kernel
theorem drf_Md_fill_20 : decode rfb_Md_fill 20 = .ok (.getfield 71, 3) := by decide +kernel
theorem drf_Md_fill_23 : decode rfb_Md_fill 23 = .ok (.if_icmp .ge 11, 3) := by decide +kernel
theorem drf_Md_fill_26 : decode rfb_Md_fill 26 = .ok (.aload_n 0, 1) := by decide +kernel
theorem drf_Md_fill_27 : decode rfb_Md_fill 27 = .ok (.iload_n 2, 1) := by decide +kernel
theorem drf_Md_fill_28 : decode rfb_Md_fill 28 = .ok (.invokevirtual 110, 3) := by decide +kernel
theorem drf_Md_fill_31 : decode rfb_Md_fill 31 = .ok (.goto 4, 3) := by decide +kernel
theorem drf_Md_fill_34 : decode rfb_Md_fill 34 = .ok (.iconst (-1), 1) := by decide +kernel
theorem drf_Md_fill_35 : decode rfb_Md_fill 35 = .ok (.iastore, 1) := by decide +kernel
theorem drf_Md_fill_36 : decode rfb_Md_fill 36 = .ok (.iinc 2 1, 3) := by decide +kernel
theorem drf_Md_fill_39 : decode rfb_Md_fill 39 = .ok (.goto (-37), 3) := by decide +kernel
theorem drf_Md_fill_42 : decode rfb_Md_fill 42 = .ok (.return_, 1) := by decide +kernel
theorem drf_Md_latest_0 : decode rfb_Md_latest 0 = .ok (.iconst (-1), 1) := by decide +kernel
theorem drf_Md_latest_1 : decode rfb_Md_latest 1 = .ok (.istore_n 3, 1) := by decide +kernel
theorem drf_Md_latest_2 : decode rfb_Md_latest 2 = .ok (.iconst 0, 1) := by decide +kernel
theorem drf_Md_latest_3 : decode rfb_Md_latest 3 = .ok (.istore 4, 2) := by decide +kernel
theorem drf_Md_latest_5 : decode rfb_Md_latest 5 = .ok (.iload 4, 2) := by decide +kernel
theorem drf_Md_latest_7 : decode rfb_Md_latest 7 = .ok (.aload_n 0, 1) := by decide +kernel
theorem drf_Md_latest_8 : decode rfb_Md_latest 8 = .ok (.getfield 113, 3) := by decide +kernel
theorem drf_Md_latest_11 : decode rfb_Md_latest 11 = .ok (.if_icmp .ge 38, 3) := by decide +kernel
theorem drf_Md_latest_14 : decode rfb_Md_latest 14 = .ok (.aload_n 0, 1) := by decide +kernel
theorem drf_Md_latest_15 : decode rfb_Md_latest 15 = .ok (.getfield 49, 3) := by decide +kernel
theorem drf_Md_latest_18 : decode rfb_Md_latest 18 = .ok (.iload 4, 2) := by decide +kernel
theorem drf_Md_latest_20 : decode rfb_Md_latest 20 = .ok (.iaload, 1) := by decide +kernel
theorem drf_Md_latest_21 : decode rfb_Md_latest 21 = .ok (.iload_n 1, 1) := by decide +kernel
theorem drf_Md_latest_22 : decode rfb_Md_latest 22 = .ok (.if_icmp .ne 19, 3) := by decide +kernel
theorem drf_Md_latest_25 : decode rfb_Md_latest 25 = .ok (.aload_n 0, 1) := by decide +kernel
theorem drf_Md_latest_26 : decode rfb_Md_latest 26 = .ok (.getfield 46, 3) := by decide +kernel
theorem drf_Md_latest_29 : decode rfb_Md_latest 29 = .ok (.iload 4, 2) := by decide +kernel
theorem drf_Md_latest_31 : decode rfb_Md_latest 31 = .ok (.iaload, 1) := by decide +kernel
theorem drf_Md_latest_32 : decode rfb_Md_latest 32 = .ok (.iload_n 2, 1) := by decide +kernel
theorem drf_Md_latest_33 : decode rfb_Md_latest 33 = .ok (.if_icmp .ne 8, 3) := by decide +kernel
theorem drf_Md_latest_36 : decode rfb_Md_latest 36 = .ok (.iload 4, 2) := by decide +kernel
theorem drf_Md_latest_38 : decode rfb_Md_latest 38 = .ok (.goto 4, 3) := by decide +kernel
theorem drf_Md_latest_41 : decode rfb_Md_latest 41 = .ok (.iload_n 3, 1) := by decide +kernel
theorem drf_Md_latest_42 : decode rfb_Md_latest 42 = .ok (.istore_n 3, 1) := by decide +kernel
theorem drf_Md_latest_43 : decode rfb_Md_latest 43 = .ok (.iinc 4 1, 3) := by decide +kernel
theorem drf_Md_latest_46 : decode rfb_Md_latest 46 = .ok (.goto (-41), 3) := by decide +kernel
theorem drf_Md_latest_49 : decode rfb_Md_latest 49 = .ok (.iload_n 3, 1) := by decide +kernel
theorem drf_Md_latest_50 : decode rfb_Md_latest 50 = .ok (.ireturn, 1) := by decide +kernel
theorem drf_Md_opens_0 : decode rfb_Md_opens 0 = .ok (.iconst 0, 1) := by decide +kernel
theorem drf_Md_opens_1 : decode rfb_Md_opens 1 = .ok (.istore_n 2, 1) := by decide +kernel
theorem drf_Md_opens_2 : decode rfb_Md_opens 2 = .ok (.iconst 0, 1) := by decide +kernel
theorem drf_Md_opens_3 : decode rfb_Md_opens 3 = .ok (.istore_n 3, 1) := by decide +kernel
theorem drf_Md_opens_4 : decode rfb_Md_opens 4 = .ok (.iload_n 3, 1) := by decide +kernel
theorem drf_Md_opens_5 : decode rfb_Md_opens 5 = .ok (.aload_n 0, 1) := by decide +kernel
theorem drf_Md_opens_6 : decode rfb_Md_opens 6 = .ok (.getfield 113, 3) := by decide +kernel
theorem drf_Md_opens_9 : decode rfb_Md_opens 9 = .ok (.if_icmp .ge 41, 3) := by decide +kernel
theorem drf_Md_opens_12 : decode rfb_Md_opens 12 = .ok (.iload_n 2, 1) := by decide +kernel
theorem drf_Md_opens_13 : decode rfb_Md_opens 13 = .ok (.aload_n 0, 1) := by decide +kernel
theorem drf_Md_opens_14 : decode rfb_Md_opens 14 = .ok (.getfield 46, 3) := by decide +kernel
theorem drf_Md_opens_17 : decode rfb_Md_opens 17 = .ok (.iload_n 3, 1) := by decide +kernel
theorem drf_Md_opens_18 : decode rfb_Md_opens 18 = .ok (.iaload, 1) := by decide +kernel
theorem drf_Md_opens_19 : decode rfb_Md_opens 19 = .ok (.ifCond .ne 22, 3) := by decide +kernel
theorem drf_Md_opens_22 : decode rfb_Md_opens 22 = .ok (.aload_n 0, 1) := by decide +kernel
theorem drf_Md_opens_23 : decode rfb_Md_opens 23 = .ok (.getfield 7, 3) := by decide +kernel
theorem drf_Md_opens_26 : decode rfb_Md_opens 26 = .ok (.aload_n 0, 1) := by decide +kernel
theorem drf_Md_opens_27 : decode rfb_Md_opens 27 = .ok (.getfield 49, 3) := by decide +kernel
theorem drf_Md_opens_30 : decode rfb_Md_opens 30 = .ok (.iload_n 3, 1) := by decide +kernel
theorem drf_Md_opens_31 : decode rfb_Md_opens 31 = .ok (.iaload, 1) := by decide +kernel
theorem drf_Md_opens_32 : decode rfb_Md_opens 32 = .ok (.iaload, 1) := by decide +kernel
theorem drf_Md_opens_33 : decode rfb_Md_opens 33 = .ok (.iload_n 1, 1) := by decide +kernel
theorem drf_Md_opens_34 : decode rfb_Md_opens 34 = .ok (.if_icmp .ne 7, 3) := by decide +kernel
theorem drf_Md_opens_37 : decode rfb_Md_opens 37 = .ok (.iconst 1, 1) := by decide +kernel
theorem drf_Md_opens_38 : decode rfb_Md_opens 38 = .ok (.goto 4, 3) := by decide +kernel
theorem drf_Md_opens_41 : decode rfb_Md_opens 41 = .ok (.iconst 0, 1) := by decide +kernel
theorem drf_Md_opens_42 : decode rfb_Md_opens 42 = .ok (.iadd, 1) := by decide +kernel
theorem drf_Md_opens_43 : decode rfb_Md_opens 43 = .ok (.istore_n 2, 1) := by decide +kernel
theorem drf_Md_opens_44 : decode rfb_Md_opens 44 = .ok (.iinc 3 1, 3) := by decide +kernel
theorem drf_Md_opens_47 : decode rfb_Md_opens 47 = .ok (.goto (-43), 3) := by decide +kernel
theorem drf_Md_opens_50 : decode rfb_Md_opens 50 = .ok (.iload_n 2, 1) := by decide +kernel
theorem drf_Md_opens_51 : decode rfb_Md_opens 51 = .ok (.ireturn, 1) := by decide +kernel
theorem drf_Md_isDue_0 : decode rfb_Md_isDue 0 = .ok (.aload_n 0, 1) := by decide +kernel
theorem drf_Md_isDue_1 : decode rfb_Md_isDue 1 = .ok (.getfield 31, 3) := by decide +kernel
theorem drf_Md_isDue_4 : decode rfb_Md_isDue 4 = .ok (.iload_n 1, 1) := by decide +kernel
theorem drf_Md_isDue_5 : decode rfb_Md_isDue 5 = .ok (.iaload, 1) := by decide +kernel
theorem drf_Md_isDue_6 : decode rfb_Md_isDue 6 = .ok (.iconst (-1), 1) := by decide +kernel
theorem drf_Md_isDue_7 : decode rfb_Md_isDue 7 = .ok (.if_icmp .ne 7, 3) := by decide +kernel
theorem drf_Md_isDue_10 : decode rfb_Md_isDue 10 = .ok (.iconst 1, 1) := by decide +kernel
theorem drf_Md_isDue_11 : decode rfb_Md_isDue 11 = .ok (.goto 4, 3) := by decide +kernel
theorem drf_Md_isDue_14 : decode rfb_Md_isDue 14 = .ok (.iconst 0, 1) := by decide +kernel
theorem drf_Md_isDue_15 : decode rfb_Md_isDue 15 = .ok (.istore_n 2, 1) := by decide +kernel
theorem drf_Md_isDue_16 : decode rfb_Md_isDue 16 = .ok (.sipush 1000, 3) := by decide +kernel
theorem drf_Md_isDue_19 : decode rfb_Md_isDue 19 = .ok (.istore_n 3, 1) := by decide +kernel
theorem drf_Md_isDue_20 : decode rfb_Md_isDue 20 = .ok (.iconst 0, 1) := by decide +kernel
theorem drf_Md_isDue_21 : decode rfb_Md_isDue 21 = .ok (.istore 4, 2) := by decide +kernel
theorem drf_Md_isDue_23 : decode rfb_Md_isDue 23 = .ok (.iload 4, 2) := by decide +kernel
theorem drf_Md_isDue_25 : decode rfb_Md_isDue 25 = .ok (.aload_n 0, 1) := by decide +kernel
theorem drf_Md_isDue_26 : decode rfb_Md_isDue 26 = .ok (.getfield 71, 3) := by decide +kernel
theorem drf_Md_isDue_29 : decode rfb_Md_isDue 29 = .ok (.if_icmp .ge 64, 3) := by decide +kernel
theorem drf_Md_isDue_32 : decode rfb_Md_isDue 32 = .ok (.aload_n 0, 1) := by decide +kernel
theorem drf_Md_isDue_33 : decode rfb_Md_isDue 33 = .ok (.iload 4, 2) := by decide +kernel
theorem drf_Md_isDue_35 : decode rfb_Md_isDue 35 = .ok (.iload_n 1, 1) := by decide +kernel
theorem drf_Md_isDue_36 : decode rfb_Md_isDue 36 = .ok (.invokevirtual 89, 3) := by decide +kernel
theorem drf_Md_isDue_39 : decode rfb_Md_isDue 39 = .ok (.ifCond .ne 6, 3) := by decide +kernel
theorem drf_Md_isDue_42 : decode rfb_Md_isDue 42 = .ok (.goto 45, 3) := by decide +kernel
theorem drf_Md_isDue_45 : decode rfb_Md_isDue 45 = .ok (.iload_n 2, 1) := by decide +kernel
theorem drf_Md_isDue_46 : decode rfb_Md_isDue 46 = .ok (.ifCond .ne 12, 3) := by decide +kernel
theorem drf_Md_isDue_49 : decode rfb_Md_isDue 49 = .ok (.aload_n 0, 1) := by decide +kernel
theorem drf_Md_isDue_50 : decode rfb_Md_isDue 50 = .ok (.iload 4, 2) := by decide +kernel
theorem drf_Md_isDue_52 : decode rfb_Md_isDue 52 = .ok (.invokevirtual 82, 3) := by decide +kernel
theorem drf_Md_isDue_55 : decode rfb_Md_isDue 55 = .ok (.ifCond .eq 7, 3) := by decide +kernel
theorem drf_Md_isDue_58 : decode rfb_Md_isDue 58 = .ok (.iconst 1, 1) := by decide +kernel
theorem drf_Md_isDue_59 : decode rfb_Md_isDue 59 = .ok (.goto 4, 3) := by decide +kernel
theorem drf_Md_isDue_62 : decode rfb_Md_isDue 62 = .ok (.iconst 0, 1) := by decide +kernel
theorem drf_Md_isDue_63 : decode rfb_Md_isDue 63 = .ok (.istore_n 2, 1) := by decide +kernel
theorem drf_Md_isDue_64 : decode rfb_Md_isDue 64 = .ok (.aload_n 0, 1) := by decide +kernel
theorem drf_Md_isDue_65 : decode rfb_Md_isDue 65 = .ok (.getfield 22, 3) := by decide +kernel
theorem drf_Md_isDue_68 : decode rfb_Md_isDue 68 = .ok (.iload 4, 2) := by decide +kernel
theorem drf_Md_isDue_70 : decode rfb_Md_isDue 70 = .ok (.iaload, 1) := by decide +kernel
theorem drf_Md_isDue_71 : decode rfb_Md_isDue 71 = .ok (.iload_n 3, 1) := by decide +kernel
theorem drf_Md_isDue_72 : decode rfb_Md_isDue 72 = .ok (.if_icmp .ge 13, 3) := by decide +kernel
theorem drf_Md_isDue_75 : decode rfb_Md_isDue 75 = .ok (.aload_n 0, 1) := by decide +kernel
theorem drf_Md_isDue_76 : decode rfb_Md_isDue 76 = .ok (.getfield 22, 3) := by decide +kernel
theorem drf_Md_isDue_79 : decode rfb_Md_isDue 79 = .ok (.iload 4, 2) := by decide +kernel
theorem drf_Md_isDue_81 : decode rfb_Md_isDue 81 = .ok (.iaload, 1) := by decide +kernel
theorem drf_Md_isDue_82 : decode rfb_Md_isDue 82 = .ok (.goto 4, 3) := by decide +kernel
theorem drf_Md_isDue_85 : decode rfb_Md_isDue 85 = .ok (.iload_n 3, 1) := by decide +kernel
theorem drf_Md_isDue_86 : decode rfb_Md_isDue 86 = .ok (.istore_n 3, 1) := by decide +kernel
theorem drf_Md_isDue_87 : decode rfb_Md_isDue 87 = .ok (.iinc 4 1, 3) := by decide +kernel
theorem drf_Md_isDue_90 : decode rfb_Md_isDue 90 = .ok (.goto (-67), 3) := by decide +kernel
theorem drf_Md_isDue_93 : decode rfb_Md_isDue 93 = .ok (.iload_n 2, 1) := by decide +kernel
theorem drf_Md_isDue_94 : decode rfb_Md_isDue 94 = .ok (.ifCond .ne 18, 3) := by decide +kernel
theorem drf_Md_isDue_97 : decode rfb_Md_isDue 97 = .ok (.aload_n 0, 1) := by decide +kernel
theorem drf_Md_isDue_98 : decode rfb_Md_isDue 98 = .ok (.getfield 106, 3) := by decide +kernel
theorem drf_Md_isDue_101 : decode rfb_Md_isDue 101 = .ok (.aload_n 0, 1) := by decide +kernel
theorem drf_Md_isDue_102 : decode rfb_Md_isDue 102 = .ok (.getfield 31, 3) := by decide +kernel
theorem drf_Md_isDue_105 : decode rfb_Md_isDue 105 = .ok (.iload_n 1, 1) := by decide +kernel
theorem drf_Md_isDue_106 : decode rfb_Md_isDue 106 = .ok (.iaload, 1) := by decide +kernel
theorem drf_Md_isDue_107 : decode rfb_Md_isDue 107 = .ok (.isub, 1) := by decide +kernel
theorem drf_Md_isDue_108 : decode rfb_Md_isDue 108 = .ok (.iload_n 3, 1) := by decide +kernel
theorem drf_Md_isDue_109 : decode rfb_Md_isDue 109 = .ok (.if_icmp .lt 7, 3) := by decide +kernel
theorem drf_Md_isDue_112 : decode rfb_Md_isDue 112 = .ok (.iconst 1, 1) := by decide +kernel
theorem drf_Md_isDue_113 : decode rfb_Md_isDue 113 = .ok (.goto 4, 3) := by decide +kernel
theorem drf_Md_isDue_116 : decode rfb_Md_isDue 116 = .ok (.iconst 0, 1) := by decide +kernel
theorem drf_Md_isDue_117 : decode rfb_Md_isDue 117 = .ok (.ireturn, 1) := by decide +kernel
theorem drf_Md_isUnitHit_0 : decode rfb_Md_isUnitHit 0 = .ok (.iconst 0, 1) := by decide +kernel
theorem drf_Md_isUnitHit_1 : decode rfb_Md_isUnitHit 1 = .ok (.istore_n 2, 1) := by decide +kernel
theorem drf_Md_isUnitHit_2 : decode rfb_Md_isUnitHit 2 = .ok (.iconst 0, 1) := by decide +kernel
theorem drf_Md_isUnitHit_3 : decode rfb_Md_isUnitHit 3 = .ok (.istore_n 3, 1) := by decide +kernel
theorem drf_Md_isUnitHit_4 : decode rfb_Md_isUnitHit 4 = .ok (.iload_n 3, 1) := by decide +kernel
theorem drf_Md_isUnitHit_5 : decode rfb_Md_isUnitHit 5 = .ok (.aload_n 0, 1) := by decide +kernel
theorem drf_Md_isUnitHit_6 : decode rfb_Md_isUnitHit 6 = .ok (.getfield 71, 3) := by decide +kernel
theorem drf_Md_isUnitHit_9 : decode rfb_Md_isUnitHit 9 = .ok (.if_icmp .ge 36, 3) := by decide +kernel
theorem drf_Md_isUnitHit_12 : decode rfb_Md_isUnitHit 12 = .ok (.iload_n 2, 1) := by decide +kernel
theorem drf_Md_isUnitHit_13 : decode rfb_Md_isUnitHit 13 = .ok (.ifCond .ne 20, 3) := by decide +kernel
theorem drf_Md_isUnitHit_16 : decode rfb_Md_isUnitHit 16 = .ok (.aload_n 0, 1) := by decide +kernel
theorem drf_Md_isUnitHit_17 : decode rfb_Md_isUnitHit 17 = .ok (.iload_n 3, 1) := by decide +kernel
theorem drf_Md_isUnitHit_18 : decode rfb_Md_isUnitHit 18 = .ok (.iload_n 1, 1) := by decide +kernel
theorem drf_Md_isUnitHit_19 : decode rfb_Md_isUnitHit 19 = .ok (.invokevirtual 89, 3) := by decide +kernel
theorem drf_Md_isUnitHit_22 : decode rfb_Md_isUnitHit 22 = .ok (.ifCond .eq 15, 3) := by decide +kernel
theorem drf_Md_isUnitHit_25 : decode rfb_Md_isUnitHit 25 = .ok (.aload_n 0, 1) := by decide +kernel
theorem drf_Md_isUnitHit_26 : decode rfb_Md_isUnitHit 26 = .ok (.iload_n 3, 1) := by decide +kernel
theorem drf_Md_isUnitHit_27 : decode rfb_Md_isUnitHit 27 = .ok (.invokevirtual 82, 3) := by decide +kernel
theorem drf_Md_isUnitHit_30 : decode rfb_Md_isUnitHit 30 = .ok (.ifCond .eq 7, 3) := by decide +kernel
theorem drf_Md_isUnitHit_33 : decode rfb_Md_isUnitHit 33 = .ok (.iconst 1, 1) := by decide +kernel
theorem drf_Md_isUnitHit_34 : decode rfb_Md_isUnitHit 34 = .ok (.goto 4, 3) := by decide +kernel
theorem drf_Md_isUnitHit_37 : decode rfb_Md_isUnitHit 37 = .ok (.iconst 0, 1) := by decide +kernel
theorem drf_Md_isUnitHit_38 : decode rfb_Md_isUnitHit 38 = .ok (.istore_n 2, 1) := by decide +kernel
theorem drf_Md_isUnitHit_39 : decode rfb_Md_isUnitHit 39 = .ok (.iinc 3 1, 3) := by decide +kernel
theorem drf_Md_isUnitHit_42 : decode rfb_Md_isUnitHit 42 = .ok (.goto (-38), 3) := by decide +kernel
theorem drf_Md_isUnitHit_45 : decode rfb_Md_isUnitHit 45 = .ok (.iload_n 2, 1) := by decide +kernel
theorem drf_Md_isUnitHit_46 : decode rfb_Md_isUnitHit 46 = .ok (.ireturn, 1) := by decide +kernel
theorem drf_Md_propose_0 : decode rfb_Md_propose 0 = .ok (.aload_n 0, 1) := by decide +kernel
theorem drf_Md_propose_1 : decode rfb_Md_propose 1 = .ok (.iload_n 1, 1) := by decide +kernel
theorem drf_Md_propose_2 : decode rfb_Md_propose 2 = .ok (.invokevirtual 102, 3) := by decide +kernel
theorem drf_Md_propose_5 : decode rfb_Md_propose 5 = .ok (.istore_n 2, 1) := by decide +kernel
theorem drf_Md_propose_6 : decode rfb_Md_propose 6 = .ok (.aload_n 0, 1) := by decide +kernel
theorem drf_Md_propose_7 : decode rfb_Md_propose 7 = .ok (.iload_n 1, 1) := by decide +kernel
theorem drf_Md_propose_8 : decode rfb_Md_propose 8 = .ok (.iconst 0, 1) := by decide +kernel
theorem drf_Md_propose_9 : decode rfb_Md_propose 9 = .ok (.invokevirtual 116, 3) := by decide +kernel
theorem drf_Md_propose_12 : decode rfb_Md_propose 12 = .ok (.istore_n 3, 1) := by decide +kernel
theorem drf_Md_propose_13 : decode rfb_Md_propose 13 = .ok (.iload_n 2, 1) := by decide +kernel
theorem drf_Md_propose_14 : decode rfb_Md_propose 14 = .ok (.ifCond .gt 17, 3) := by decide +kernel
theorem drf_Md_propose_17 : decode rfb_Md_propose 17 = .ok (.iload_n 3, 1) := by decide +kernel
theorem drf_Md_propose_18 : decode rfb_Md_propose 18 = .ok (.iconst (-1), 1) := by decide +kernel
theorem drf_Md_propose_19 : decode rfb_Md_propose 19 = .ok (.if_icmp .eq 10, 3) := by decide +kernel
theorem drf_Md_propose_22 : decode rfb_Md_propose 22 = .ok (.aload_n 0, 1) := by decide +kernel
theorem drf_Md_propose_23 : decode rfb_Md_propose 23 = .ok (.getfield 46, 3) := by decide +kernel
theorem drf_Md_propose_26 : decode rfb_Md_propose 26 = .ok (.iload_n 3, 1) := by decide +kernel
theorem drf_Md_propose_27 : decode rfb_Md_propose 27 = .ok (.iconst 3, 1) := by decide +kernel
theorem drf_Md_propose_28 : decode rfb_Md_propose 28 = .ok (.iastore, 1) := by decide +kernel
theorem drf_Md_propose_29 : decode rfb_Md_propose 29 = .ok (.iconst 0, 1) := by decide +kernel
theorem drf_Md_propose_30 : decode rfb_Md_propose 30 = .ok (.ireturn, 1) := by decide +kernel
theorem drf_Md_propose_31 : decode rfb_Md_propose 31 = .ok (.iload_n 3, 1) := by decide +kernel
theorem drf_Md_propose_32 : decode rfb_Md_propose 32 = .ok (.iconst (-1), 1) := by decide +kernel
theorem drf_Md_propose_33 : decode rfb_Md_propose 33 = .ok (.if_icmp .eq 13, 3) := by decide +kernel
theorem drf_Md_propose_36 : decode rfb_Md_propose 36 = .ok (.aload_n 0, 1) := by decide +kernel
theorem drf_Md_propose_37 : decode rfb_Md_propose 37 = .ok (.iload_n 3, 1) := by decide +kernel
theorem drf_Md_propose_38 : decode rfb_Md_propose 38 = .ok (.invokevirtual 120, 3) := by decide +kernel
theorem drf_Md_propose_41 : decode rfb_Md_propose 41 = .ok (.ifCond .eq 5, 3) := by decide +kernel
theorem drf_Md_propose_44 : decode rfb_Md_propose 44 = .ok (.iconst 0, 1) := by decide +kernel
theorem drf_Md_propose_45 : decode rfb_Md_propose 45 = .ok (.ireturn, 1) := by decide +kernel
theorem drf_Md_propose_46 : decode rfb_Md_propose 46 = .ok (.aload_n 0, 1) := by decide +kernel
theorem drf_Md_propose_47 : decode rfb_Md_propose 47 = .ok (.iload_n 1, 1) := by decide +kernel
theorem drf_Md_propose_48 : decode rfb_Md_propose 48 = .ok (.iconst 4, 1) := by decide +kernel
theorem drf_Md_propose_49 : decode rfb_Md_propose 49 = .ok (.invokevirtual 116, 3) := by decide +kernel
theorem drf_Md_propose_52 : decode rfb_Md_propose 52 = .ok (.istore 4, 2) := by decide +kernel
theorem drf_Md_propose_54 : decode rfb_Md_propose 54 = .ok (.iload 4, 2) := by decide +kernel
theorem drf_Md_propose_56 : decode rfb_Md_propose 56 = .ok (.iconst (-1), 1) := by decide +kernel
theorem drf_Md_propose_57 : decode rfb_Md_propose 57 = .ok (.if_icmp .eq 26, 3) := by decide +kernel
theorem drf_Md_propose_60 : decode rfb_Md_propose 60 = .ok (.aload_n 0, 1) := by decide +kernel
theorem drf_Md_propose_61 : decode rfb_Md_propose 61 = .ok (.iload 4, 2) := by decide +kernel
theorem drf_Md_propose_63 : decode rfb_Md_propose 63 = .ok (.invokevirtual 120, 3) := by decide +kernel
theorem drf_Md_propose_66 : decode rfb_Md_propose 66 = .ok (.ifCond .eq 17, 3) := by decide +kernel
theorem drf_Md_propose_69 : decode rfb_Md_propose 69 = .ok (.iload_n 3, 1) := by decide +kernel
theorem drf_Md_propose_70 : decode rfb_Md_propose 70 = .ok (.iconst (-1), 1) := by decide +kernel
theorem drf_Md_propose_71 : decode rfb_Md_propose 71 = .ok (.if_icmp .eq 10, 3) := by decide +kernel
theorem drf_Md_propose_74 : decode rfb_Md_propose 74 = .ok (.aload_n 0, 1) := by decide +kernel
theorem drf_Md_propose_75 : decode rfb_Md_propose 75 = .ok (.getfield 46, 3) := by decide +kernel
theorem drf_Md_propose_78 : decode rfb_Md_propose 78 = .ok (.iload_n 3, 1) := by decide +kernel
theorem drf_Md_propose_79 : decode rfb_Md_propose 79 = .ok (.iconst 3, 1) := by decide +kernel
theorem drf_Md_propose_80 : decode rfb_Md_propose 80 = .ok (.iastore, 1) := by decide +kernel
theorem drf_Md_propose_81 : decode rfb_Md_propose 81 = .ok (.iconst 0, 1) := by decide +kernel
theorem drf_Md_propose_82 : decode rfb_Md_propose 82 = .ok (.ireturn, 1) := by decide +kernel
theorem drf_Md_propose_83 : decode rfb_Md_propose 83 = .ok (.aload_n 0, 1) := by decide +kernel
theorem drf_Md_propose_84 : decode rfb_Md_propose 84 = .ok (.iload_n 1, 1) := by decide +kernel
theorem drf_Md_propose_85 : decode rfb_Md_propose 85 = .ok (.invokevirtual 123, 3) := by decide +kernel
theorem drf_Md_propose_88 : decode rfb_Md_propose 88 = .ok (.istore 5, 2) := by decide +kernel
theorem drf_Md_propose_90 : decode rfb_Md_propose 90 = .ok (.aload_n 0, 1) := by decide +kernel
theorem drf_Md_propose_91 : decode rfb_Md_propose 91 = .ok (.getfield 113, 3) := by decide +kernel
theorem drf_Md_propose_94 : decode rfb_Md_propose 94 = .ok (.bipush 60, 2) := by decide +kernel
theorem drf_Md_propose_96 : decode rfb_Md_propose 96 = .ok (.if_icmp .eq 30, 3) := by decide +kernel
theorem drf_Md_propose_99 : decode rfb_Md_propose 99 = .ok (.iload_n 3, 1) := by decide +kernel
theorem drf_Md_propose_100 : decode rfb_Md_propose 100 = .ok (.iconst (-1), 1) := by decide +kernel
theorem drf_Md_propose_101 : decode rfb_Md_propose 101 = .ok (.if_icmp .ne 27, 3) := by decide +kernel
theorem drf_Md_propose_104 : decode rfb_Md_propose 104 = .ok (.aload_n 0, 1) := by decide +kernel
theorem drf_Md_propose_105 : decode rfb_Md_propose 105 = .ok (.aload_n 0, 1) := by decide +kernel
theorem drf_Md_propose_106 : decode rfb_Md_propose 106 = .ok (.getfield 7, 3) := by decide +kernel
theorem drf_Md_propose_109 : decode rfb_Md_propose 109 = .ok (.iload_n 1, 1) := by decide +kernel
theorem drf_Md_propose_110 : decode rfb_Md_propose 110 = .ok (.iaload, 1) := by decide +kernel
theorem drf_Md_propose_111 : decode rfb_Md_propose 111 = .ok (.invokevirtual 126, 3) := by decide +kernel
theorem drf_Md_propose_114 : decode rfb_Md_propose 114 = .ok (.aload_n 0, 1) := by decide +kernel
theorem drf_Md_propose_115 : decode rfb_Md_propose 115 = .ok (.getfield 64, 3) := by decide +kernel
theorem drf_Md_propose_118 : decode rfb_Md_propose 118 = .ok (.if_icmp .lt 10, 3) := by decide +kernel
theorem drf_Md_propose_121 : decode rfb_Md_propose 121 = .ok (.iload 5, 2) := by decide +kernel
theorem drf_Md_propose_123 : decode rfb_Md_propose 123 = .ok (.ifCond .ne 5, 3) := by decide +kernel
theorem drf_Md_propose_126 : decode rfb_Md_propose 126 = .ok (.iconst (-1), 1) := by decide +kernel
theorem drf_Md_propose_127 : decode rfb_Md_propose 127 = .ok (.ireturn, 1) := by decide +kernel
theorem drf_Md_propose_128 : decode rfb_Md_propose 128 = .ok (.iload_n 3, 1) := by decide +kernel
theorem drf_Md_propose_129 : decode rfb_Md_propose 129 = .ok (.iconst (-1), 1) := by decide +kernel
theorem drf_Md_propose_130 : decode rfb_Md_propose 130 = .ok (.if_icmp .eq 10, 3) := by decide +kernel
theorem drf_Md_propose_133 : decode rfb_Md_propose 133 = .ok (.aload_n 0, 1) := by decide +kernel
theorem drf_Md_propose_134 : decode rfb_Md_propose 134 = .ok (.getfield 46, 3) := by decide +kernel
theorem drf_Md_propose_137 : decode rfb_Md_propose 137 = .ok (.iload_n 3, 1) := by decide +kernel
theorem drf_Md_propose_138 : decode rfb_Md_propose 138 = .ok (.iconst 2, 1) := by decide +kernel
theorem drf_Md_propose_139 : decode rfb_Md_propose 139 = .ok (.iastore, 1) := by decide +kernel
theorem drf_Md_propose_140 : decode rfb_Md_propose 140 = .ok (.aload_n 0, 1) := by decide +kernel
theorem drf_Md_propose_141 : decode rfb_Md_propose 141 = .ok (.getfield 46, 3) := by decide +kernel
theorem drf_Md_propose_144 : decode rfb_Md_propose 144 = .ok (.aload_n 0, 1) := by decide +kernel
theorem drf_Md_propose_145 : decode rfb_Md_propose 145 = .ok (.getfield 113, 3) := by decide +kernel
theorem drf_Md_propose_148 : decode rfb_Md_propose 148 = .ok (.iconst 0, 1) := by decide +kernel
theorem drf_Md_propose_149 : decode rfb_Md_propose 149 = .ok (.iastore, 1) := by decide +kernel
theorem drf_Md_propose_150 : decode rfb_Md_propose 150 = .ok (.aload_n 0, 1) := by decide +kernel
theorem drf_Md_propose_151 : decode rfb_Md_propose 151 = .ok (.getfield 49, 3) := by decide +kernel
theorem drf_Md_propose_154 : decode rfb_Md_propose 154 = .ok (.aload_n 0, 1) := by decide +kernel
theorem drf_Md_propose_155 : decode rfb_Md_propose 155 = .ok (.getfield 113, 3) := by decide +kernel
theorem drf_Md_propose_158 : decode rfb_Md_propose 158 = .ok (.iload_n 1, 1) := by decide +kernel
theorem drf_Md_propose_159 : decode rfb_Md_propose 159 = .ok (.iastore, 1) := by decide +kernel
theorem drf_Md_propose_160 : decode rfb_Md_propose 160 = .ok (.aload_n 0, 1) := by decide +kernel
theorem drf_Md_propose_161 : decode rfb_Md_propose 161 = .ok (.getfield 55, 3) := by decide +kernel
theorem drf_Md_propose_164 : decode rfb_Md_propose 164 = .ok (.aload_n 0, 1) := by decide +kernel
theorem drf_Md_propose_165 : decode rfb_Md_propose 165 = .ok (.getfield 113, 3) := by decide +kernel
theorem drf_Md_propose_168 : decode rfb_Md_propose 168 = .ok (.aload_n 0, 1) := by decide +kernel
theorem drf_Md_propose_169 : decode rfb_Md_propose 169 = .ok (.getfield 106, 3) := by decide +kernel
theorem drf_Md_propose_172 : decode rfb_Md_propose 172 = .ok (.iastore, 1) := by decide +kernel
theorem drf_Md_propose_173 : decode rfb_Md_propose 173 = .ok (.aload_n 0, 1) := by decide +kernel
theorem drf_Md_propose_174 : decode rfb_Md_propose 174 = .ok (.getfield 58, 3) := by decide +kernel
theorem drf_Md_propose_177 : decode rfb_Md_propose 177 = .ok (.aload_n 0, 1) := by decide +kernel
theorem drf_Md_propose_178 : decode rfb_Md_propose 178 = .ok (.getfield 113, 3) := by decide +kernel
theorem drf_Md_propose_181 : decode rfb_Md_propose 181 = .ok (.iload 5, 2) := by decide +kernel
theorem drf_Md_propose_183 : decode rfb_Md_propose 183 = .ok (.ifCond .eq 7, 3) := by decide +kernel
theorem drf_Md_propose_186 : decode rfb_Md_propose 186 = .ok (.iconst 1, 1) := by decide +kernel
theorem drf_Md_propose_187 : decode rfb_Md_propose 187 = .ok (.goto 4, 3) := by decide +kernel
theorem drf_Md_propose_190 : decode rfb_Md_propose 190 = .ok (.iconst 0, 1) := by decide +kernel
theorem drf_Md_propose_191 : decode rfb_Md_propose 191 = .ok (.iastore, 1) := by decide +kernel
theorem drf_Md_propose_192 : decode rfb_Md_propose 192 = .ok (.aload_n 0, 1) := by decide +kernel
theorem drf_Md_propose_193 : decode rfb_Md_propose 193 = .ok (.aload_n 0, 1) := by decide +kernel
theorem drf_Md_propose_194 : decode rfb_Md_propose 194 = .ok (.getfield 113, 3) := by decide +kernel
theorem drf_Md_propose_197 : decode rfb_Md_propose 197 = .ok (.invokevirtual 129, 3) := by decide +kernel
theorem drf_Md_propose_200 : decode rfb_Md_propose 200 = .ok (.aload_n 0, 1) := by decide +kernel
theorem drf_Md_propose_201 : decode rfb_Md_propose 201 = .ok (.dup, 1) := by decide +kernel
theorem drf_Md_propose_202 : decode rfb_Md_propose 202 = .ok (.getfield 113, 3) := by decide +kernel
theorem drf_Md_propose_205 : decode rfb_Md_propose 205 = .ok (.iconst 1, 1) := by decide +kernel
theorem drf_Md_propose_206 : decode rfb_Md_propose 206 = .ok (.iadd, 1) := by decide +kernel
theorem drf_Md_propose_207 : decode rfb_Md_propose 207 = .ok (.putfield 113, 3) := by decide +kernel
theorem drf_Md_propose_210 : decode rfb_Md_propose 210 = .ok (.iconst 1, 1) := by decide +kernel
theorem drf_Md_propose_211 : decode rfb_Md_propose 211 = .ok (.ireturn, 1) := by decide +kernel
theorem drf_Md_run_0 : decode rfb_Md_run 0 = .ok (.aload_n 0, 1) := by decide +kernel
theorem drf_Md_run_1 : decode rfb_Md_run 1 = .ok (.iconst 0, 1) := by decide +kernel
theorem drf_Md_run_2 : decode rfb_Md_run 2 = .ok (.putfield 68, 3) := by decide +kernel
theorem drf_Md_run_5 : decode rfb_Md_run 5 = .ok (.aload_n 0, 1) := by decide +kernel
theorem drf_Md_run_6 : decode rfb_Md_run 6 = .ok (.iconst 0, 1) := by decide +kernel
theorem drf_Md_run_7 : decode rfb_Md_run 7 = .ok (.putfield 133, 3) := by decide +kernel
theorem drf_Md_run_10 : decode rfb_Md_run 10 = .ok (.iconst 0, 1) := by decide +kernel
theorem drf_Md_run_11 : decode rfb_Md_run 11 = .ok (.istore_n 1, 1) := by decide +kernel
theorem drf_Md_run_12 : decode rfb_Md_run 12 = .ok (.iconst 0, 1) := by decide +kernel
theorem drf_Md_run_13 : decode rfb_Md_run 13 = .ok (.istore_n 2, 1) := by decide +kernel
theorem drf_Md_run_14 : decode rfb_Md_run 14 = .ok (.iload_n 2, 1) := by decide +kernel
theorem drf_Md_run_15 : decode rfb_Md_run 15 = .ok (.aload_n 0, 1) := by decide +kernel
theorem drf_Md_run_16 : decode rfb_Md_run 16 = .ok (.getfield 71, 3) := by decide +kernel
theorem drf_Md_run_19 : decode rfb_Md_run 19 = .ok (.if_icmp .ge 77, 3) := by decide +kernel
theorem drf_Md_run_22 : decode rfb_Md_run 22 = .ok (.aload_n 0, 1) := by decide +kernel
theorem drf_Md_run_23 : decode rfb_Md_run 23 = .ok (.iload_n 2, 1) := by decide +kernel
theorem drf_Md_run_24 : decode rfb_Md_run 24 = .ok (.invokevirtual 92, 3) := by decide +kernel
theorem drf_Md_run_27 : decode rfb_Md_run 27 = .ok (.iload_n 2, 1) := by decide +kernel
theorem drf_Md_run_28 : decode rfb_Md_run 28 = .ok (.if_icmp .ne 62, 3) := by decide +kernel
theorem drf_Md_run_31 : decode rfb_Md_run 31 = .ok (.aload_n 0, 1) := by decide +kernel
theorem drf_Md_run_32 : decode rfb_Md_run 32 = .ok (.iload_n 2, 1) := by decide +kernel
theorem drf_Md_run_33 : decode rfb_Md_run 33 = .ok (.invokevirtual 136, 3) := by decide +kernel
theorem drf_Md_run_36 : decode rfb_Md_run 36 = .ok (.ifCond .ne 6, 3) := by decide +kernel
theorem drf_Md_run_39 : decode rfb_Md_run 39 = .ok (.goto 51, 3) := by decide +kernel
theorem drf_Md_run_42 : decode rfb_Md_run 42 = .ok (.aload_n 0, 1) := by decide +kernel
theorem drf_Md_run_43 : decode rfb_Md_run 43 = .ok (.getfield 31, 3) := by decide +kernel
theorem drf_Md_run_46 : decode rfb_Md_run 46 = .ok (.iload_n 2, 1) := by decide +kernel
theorem drf_Md_run_47 : decode rfb_Md_run 47 = .ok (.aload_n 0, 1) := by decide +kernel
theorem drf_Md_run_48 : decode rfb_Md_run 48 = .ok (.getfield 106, 3) := by decide +kernel
theorem drf_Md_run_51 : decode rfb_Md_run 51 = .ok (.iastore, 1) := by decide +kernel
theorem drf_Md_run_52 : decode rfb_Md_run 52 = .ok (.aload_n 0, 1) := by decide +kernel
theorem drf_Md_run_53 : decode rfb_Md_run 53 = .ok (.iload_n 2, 1) := by decide +kernel
theorem drf_Md_run_54 : decode rfb_Md_run 54 = .ok (.invokevirtual 139, 3) := by decide +kernel
theorem drf_Md_run_57 : decode rfb_Md_run 57 = .ok (.istore_n 3, 1) := by decide +kernel
theorem drf_Md_run_58 : decode rfb_Md_run 58 = .ok (.iload_n 1, 1) := by decide +kernel
theorem drf_Md_run_59 : decode rfb_Md_run 59 = .ok (.iload_n 3, 1) := by decide +kernel
theorem drf_Md_run_60 : decode rfb_Md_run 60 = .ok (.iconst 1, 1) := by decide +kernel
theorem drf_Md_run_61 : decode rfb_Md_run 61 = .ok (.if_icmp .ne 7, 3) := by decide +kernel
theorem drf_Md_run_64 : decode rfb_Md_run 64 = .ok (.iconst 1, 1) := by decide +kernel
theorem drf_Md_run_65 : decode rfb_Md_run 65 = .ok (.goto 4, 3) := by decide +kernel
theorem drf_Md_run_68 : decode rfb_Md_run 68 = .ok (.iconst 0, 1) := by decide +kernel
theorem drf_Md_run_69 : decode rfb_Md_run 69 = .ok (.iadd, 1) := by decide +kernel
theorem drf_Md_run_70 : decode rfb_Md_run 70 = .ok (.istore_n 1, 1) := by decide +kernel
theorem drf_Md_run_71 : decode rfb_Md_run 71 = .ok (.aload_n 0, 1) := by decide +kernel
theorem drf_Md_run_72 : decode rfb_Md_run 72 = .ok (.dup, 1) := by decide +kernel
theorem drf_Md_run_73 : decode rfb_Md_run 73 = .ok (.getfield 133, 3) := by decide +kernel
theorem drf_Md_run_76 : decode rfb_Md_run 76 = .ok (.iload_n 3, 1) := by decide +kernel
theorem drf_Md_run_77 : decode rfb_Md_run 77 = .ok (.iconst (-1), 1) := by decide +kernel
theorem drf_Md_run_78 : decode rfb_Md_run 78 = .ok (.if_icmp .ne 7, 3) := by decide +kernel
theorem drf_Md_run_81 : decode rfb_Md_run 81 = .ok (.iconst 1, 1) := by decide +kernel
theorem drf_Md_run_82 : decode rfb_Md_run 82 = .ok (.goto 4, 3) := by decide +kernel
theorem drf_Md_run_85 : decode rfb_Md_run 85 = .ok (.iconst 0, 1) := by decide +kernel
theorem drf_Md_run_86 : decode rfb_Md_run 86 = .ok (.iadd, 1) := by decide +kernel
theorem drf_Md_run_87 : decode rfb_Md_run 87 = .ok (.putfield 133, 3) := by decide +kernel
theorem drf_Md_run_90 : decode rfb_Md_run 90 = .ok (.iinc 2 1, 3) := by decide +kernel
theorem drf_Md_run_93 : decode rfb_Md_run 93 = .ok (.goto (-79), 3) := by decide +kernel
theorem drf_Md_run_96 : decode rfb_Md_run 96 = .ok (.iload_n 1, 1) := by decide +kernel
theorem drf_Md_run_97 : decode rfb_Md_run 97 = .ok (.ireturn, 1) := by decide +kernel
theorem drf_Md_waiting_0 : decode rfb_Md_waiting 0 = .ok (.aload_n 0, 1) := by decide +kernel
theorem drf_Md_waiting_1 : decode rfb_Md_waiting 1 = .ok (.iconst 0, 1) := by decide +kernel
theorem drf_Md_waiting_2 : decode rfb_Md_waiting 2 = .ok (.putfield 68, 3) := by decide +kernel
theorem drf_Md_waiting_5 : decode rfb_Md_waiting 5 = .ok (.aload_n 0, 1) := by decide +kernel
theorem drf_Md_waiting_6 : decode rfb_Md_waiting 6 = .ok (.getfield 133, 3) := by decide +kernel
theorem drf_Md_waiting_9 : decode rfb_Md_waiting 9 = .ok (.ireturn, 1) := by decide +kernel
theorem drf_Md_about_0 : decode rfb_Md_about 0 = .ok (.aload_n 0, 1) := by decide +kernel
theorem drf_Md_about_1 : decode rfb_Md_about 1 = .ok (.iconst 0, 1) := by decide +kernel
theorem drf_Md_about_2 : decode rfb_Md_about 2 = .ok (.putfield 68, 3) := by decide +kernel
theorem drf_Md_about_5 : decode rfb_Md_about 5 = .ok (.iload_n 1, 1) := by decide +kernel
theorem drf_Md_about_6 : decode rfb_Md_about 6 = .ok (.ifCond .lt 11, 3) := by decide +kernel
theorem drf_Md_about_9 : decode rfb_Md_about 9 = .ok (.iload_n 1, 1) := by decide +kernel
theorem drf_Md_about_10 : decode rfb_Md_about 10 = .ok (.aload_n 0, 1) := by decide +kernel
theorem drf_Md_about_11 : decode rfb_Md_about 11 = .ok (.getfield 113, 3) := by decide +kernel
theorem drf_Md_about_14 : decode rfb_Md_about 14 = .ok (.if_icmp .lt 5, 3) := by decide +kernel
theorem drf_Md_about_17 : decode rfb_Md_about 17 = .ok (.iconst (-1), 1) := by decide +kernel
theorem drf_Md_about_18 : decode rfb_Md_about 18 = .ok (.ireturn, 1) := by decide +kernel
theorem drf_Md_about_19 : decode rfb_Md_about 19 = .ok (.iload_n 2, 1) := by decide +kernel
theorem drf_Md_about_20 : decode rfb_Md_about 20 = .ok (.tableswitch 71 0 4 #[36, 43, 50, 57, 64], 36) := by decide +kernel
theorem drf_Md_about_56 : decode rfb_Md_about 56 = .ok (.aload_n 0, 1) := by decide +kernel
theorem drf_Md_about_57 : decode rfb_Md_about 57 = .ok (.getfield 46, 3) := by decide +kernel
theorem drf_Md_about_60 : decode rfb_Md_about 60 = .ok (.iload_n 1, 1) := by decide +kernel
theorem drf_Md_about_61 : decode rfb_Md_about 61 = .ok (.iaload, 1) := by decide +kernel
theorem drf_Md_about_62 : decode rfb_Md_about 62 = .ok (.ireturn, 1) := by decide +kernel
theorem drf_Md_about_63 : decode rfb_Md_about 63 = .ok (.aload_n 0, 1) := by decide +kernel
theorem drf_Md_about_64 : decode rfb_Md_about 64 = .ok (.getfield 49, 3) := by decide +kernel
theorem drf_Md_about_67 : decode rfb_Md_about 67 = .ok (.iload_n 1, 1) := by decide +kernel
theorem drf_Md_about_68 : decode rfb_Md_about 68 = .ok (.iaload, 1) := by decide +kernel
theorem drf_Md_about_69 : decode rfb_Md_about 69 = .ok (.ireturn, 1) := by decide +kernel
theorem drf_Md_about_70 : decode rfb_Md_about 70 = .ok (.aload_n 0, 1) := by decide +kernel
theorem drf_Md_about_71 : decode rfb_Md_about 71 = .ok (.getfield 52, 3) := by decide +kernel
theorem drf_Md_about_74 : decode rfb_Md_about 74 = .ok (.iload_n 1, 1) := by decide +kernel
theorem drf_Md_about_75 : decode rfb_Md_about 75 = .ok (.iaload, 1) := by decide +kernel
theorem drf_Md_about_76 : decode rfb_Md_about 76 = .ok (.ireturn, 1) := by decide +kernel
theorem drf_Md_about_77 : decode rfb_Md_about 77 = .ok (.aload_n 0, 1) := by decide +kernel
theorem drf_Md_about_78 : decode rfb_Md_about 78 = .ok (.getfield 55, 3) := by decide +kernel
theorem drf_Md_about_81 : decode rfb_Md_about 81 = .ok (.iload_n 1, 1) := by decide +kernel
theorem drf_Md_about_82 : decode rfb_Md_about 82 = .ok (.iaload, 1) := by decide +kernel
theorem drf_Md_about_83 : decode rfb_Md_about 83 = .ok (.ireturn, 1) := by decide +kernel
theorem drf_Md_about_84 : decode rfb_Md_about 84 = .ok (.aload_n 0, 1) := by decide +kernel
theorem drf_Md_about_85 : decode rfb_Md_about 85 = .ok (.getfield 58, 3) := by decide +kernel
theorem drf_Md_about_88 : decode rfb_Md_about 88 = .ok (.iload_n 1, 1) := by decide +kernel
theorem drf_Md_about_89 : decode rfb_Md_about 89 = .ok (.iaload, 1) := by decide +kernel
theorem drf_Md_about_90 : decode rfb_Md_about 90 = .ok (.ireturn, 1) := by decide +kernel
theorem drf_Md_about_91 : decode rfb_Md_about 91 = .ok (.iconst (-1), 1) := by decide +kernel
theorem drf_Md_about_92 : decode rfb_Md_about 92 = .ok (.ireturn, 1) := by decide +kernel
theorem drf_Md_target_0 : decode rfb_Md_target 0 = .ok (.aload_n 0, 1) := by decide +kernel
theorem drf_Md_target_1 : decode rfb_Md_target 1 = .ok (.iconst 0, 1) := by decide +kernel
theorem drf_Md_target_2 : decode rfb_Md_target 2 = .ok (.putfield 68, 3) := by decide +kernel
theorem drf_Md_target_5 : decode rfb_Md_target 5 = .ok (.iload_n 1, 1) := by decide +kernel
theorem drf_Md_target_6 : decode rfb_Md_target 6 = .ok (.ifCond .lt 19, 3) := by decide +kernel
theorem drf_Md_target_9 : decode rfb_Md_target 9 = .ok (.iload_n 1, 1) := by decide +kernel
theorem drf_Md_target_10 : decode rfb_Md_target 10 = .ok (.aload_n 0, 1) := by decide +kernel
theorem drf_Md_target_11 : decode rfb_Md_target 11 = .ok (.getfield 113, 3) := by decide +kernel
theorem drf_Md_target_14 : decode rfb_Md_target 14 = .ok (.if_icmp .ge 11, 3) := by decide +kernel
theorem drf_Md_target_17 : decode rfb_Md_target 17 = .ok (.aload_n 0, 1) := by decide +kernel
theorem drf_Md_target_18 : decode rfb_Md_target 18 = .ok (.iload_n 2, 1) := by decide +kernel
theorem drf_Md_target_19 : decode rfb_Md_target 19 = .ok (.invokevirtual 74, 3) := by decide +kernel
theorem drf_Md_target_22 : decode rfb_Md_target 22 = .ok (.ifCond .ne 7, 3) := by decide +kernel
theorem drf_Md_target_25 : decode rfb_Md_target 25 = .ok (.iconst (-1), 1) := by decide +kernel
theorem drf_Md_target_26 : decode rfb_Md_target 26 = .ok (.goto 14, 3) := by decide +kernel
theorem drf_Md_target_29 : decode rfb_Md_target 29 = .ok (.aload_n 0, 1) := by decide +kernel
theorem drf_Md_target_30 : decode rfb_Md_target 30 = .ok (.getfield 61, 3) := by decide +kernel
theorem drf_Md_target_33 : decode rfb_Md_target 33 = .ok (.bipush 12, 2) := by decide +kernel
theorem drf_Md_target_35 : decode rfb_Md_target 35 = .ok (.iload_n 1, 1) := by decide +kernel
theorem drf_Md_target_36 : decode rfb_Md_target 36 = .ok (.imul, 1) := by decide +kernel
theorem drf_Md_target_37 : decode rfb_Md_target 37 = .ok (.iload_n 2, 1) := by decide +kernel
theorem drf_Md_target_38 : decode rfb_Md_target 38 = .ok (.iadd, 1) := by decide +kernel
theorem drf_Md_target_39 : decode rfb_Md_target 39 = .ok (.iaload, 1) := by decide +kernel
theorem drf_Md_target_40 : decode rfb_Md_target 40 = .ok (.ireturn, 1) := by decide +kernel
theorem drf_Md_redo_0 : decode rfb_Md_redo 0 = .ok (.aload_n 0, 1) := by decide +kernel
theorem drf_Md_redo_1 : decode rfb_Md_redo 1 = .ok (.getfield 49, 3) := by decide +kernel
theorem drf_Md_redo_4 : decode rfb_Md_redo 4 = .ok (.iload_n 1, 1) := by decide +kernel
theorem drf_Md_redo_5 : decode rfb_Md_redo 5 = .ok (.iaload, 1) := by decide +kernel
theorem drf_Md_redo_6 : decode rfb_Md_redo 6 = .ok (.istore_n 2, 1) := by decide +kernel
theorem drf_Md_redo_7 : decode rfb_Md_redo 7 = .ok (.aload_n 0, 1) := by decide +kernel
theorem drf_Md_redo_8 : decode rfb_Md_redo 8 = .ok (.iload_n 2, 1) := by decide +kernel
theorem drf_Md_redo_9 : decode rfb_Md_redo 9 = .ok (.invokevirtual 92, 3) := by decide +kernel
theorem drf_Md_redo_12 : decode rfb_Md_redo 12 = .ok (.iload_n 2, 1) := by decide +kernel
theorem drf_Md_redo_13 : decode rfb_Md_redo 13 = .ok (.if_icmp .ne 11, 3) := by decide +kernel
theorem drf_Md_redo_16 : decode rfb_Md_redo 16 = .ok (.aload_n 0, 1) := by decide +kernel
theorem drf_Md_redo_17 : decode rfb_Md_redo 17 = .ok (.iload_n 2, 1) := by decide +kernel
theorem drf_Md_redo_18 : decode rfb_Md_redo 18 = .ok (.invokevirtual 102, 3) := by decide +kernel
theorem drf_Md_redo_21 : decode rfb_Md_redo 21 = .ok (.ifCond .gt 11, 3) := by decide +kernel
theorem drf_Md_redo_24 : decode rfb_Md_redo 24 = .ok (.aload_n 0, 1) := by decide +kernel
theorem drf_Md_redo_25 : decode rfb_Md_redo 25 = .ok (.getfield 46, 3) := by decide +kernel
theorem drf_Md_redo_28 : decode rfb_Md_redo 28 = .ok (.iload_n 1, 1) := by decide +kernel
theorem drf_Md_redo_29 : decode rfb_Md_redo 29 = .ok (.iconst 3, 1) := by decide +kernel
theorem drf_Md_redo_30 : decode rfb_Md_redo 30 = .ok (.iastore, 1) := by decide +kernel
theorem drf_Md_redo_31 : decode rfb_Md_redo 31 = .ok (.return_, 1) := by decide +kernel
theorem drf_Md_redo_32 : decode rfb_Md_redo 32 = .ok (.aload_n 0, 1) := by decide +kernel
theorem drf_Md_redo_33 : decode rfb_Md_redo 33 = .ok (.getfield 52, 3) := by decide +kernel
theorem drf_Md_redo_36 : decode rfb_Md_redo 36 = .ok (.iload_n 1, 1) := by decide +kernel
theorem drf_Md_redo_37 : decode rfb_Md_redo 37 = .ok (.dup2, 1) := by decide +kernel
theorem drf_Md_redo_38 : decode rfb_Md_redo 38 = .ok (.iaload, 1) := by decide +kernel
theorem drf_Md_redo_39 : decode rfb_Md_redo 39 = .ok (.iconst 1, 1) := by decide +kernel
theorem drf_Md_redo_40 : decode rfb_Md_redo 40 = .ok (.iadd, 1) := by decide +kernel
theorem drf_Md_redo_41 : decode rfb_Md_redo 41 = .ok (.iastore, 1) := by decide +kernel
theorem drf_Md_redo_42 : decode rfb_Md_redo 42 = .ok (.aload_n 0, 1) := by decide +kernel
theorem drf_Md_redo_43 : decode rfb_Md_redo 43 = .ok (.iload_n 1, 1) := by decide +kernel
theorem drf_Md_redo_44 : decode rfb_Md_redo 44 = .ok (.invokevirtual 129, 3) := by decide +kernel
theorem drf_Md_redo_47 : decode rfb_Md_redo 47 = .ok (.return_, 1) := by decide +kernel
theorem drf_Md_pass_0 : decode rfb_Md_pass 0 = .ok (.aload_n 0, 1) := by decide +kernel
theorem drf_Md_pass_1 : decode rfb_Md_pass 1 = .ok (.iconst 0, 1) := by decide +kernel
theorem drf_Md_pass_2 : decode rfb_Md_pass 2 = .ok (.putfield 68, 3) := by decide +kernel
theorem drf_Md_pass_5 : decode rfb_Md_pass 5 = .ok (.iload_n 1, 1) := by decide +kernel
theorem drf_Md_pass_6 : decode rfb_Md_pass 6 = .ok (.ifCond .lt 20, 3) := by decide +kernel
theorem drf_Md_pass_9 : decode rfb_Md_pass 9 = .ok (.iload_n 1, 1) := by decide +kernel
theorem drf_Md_pass_10 : decode rfb_Md_pass 10 = .ok (.aload_n 0, 1) := by decide +kernel
theorem drf_Md_pass_11 : decode rfb_Md_pass 11 = .ok (.getfield 113, 3) := by decide +kernel
theorem drf_Md_pass_14 : decode rfb_Md_pass 14 = .ok (.if_icmp .ge 12, 3) := by decide +kernel
theorem drf_Md_pass_17 : decode rfb_Md_pass 17 = .ok (.aload_n 0, 1) := by decide +kernel
theorem drf_Md_pass_18 : decode rfb_Md_pass 18 = .ok (.getfield 46, 3) := by decide +kernel
theorem drf_Md_pass_21 : decode rfb_Md_pass 21 = .ok (.iload_n 1, 1) := by decide +kernel
theorem drf_Md_pass_22 : decode rfb_Md_pass 22 = .ok (.iaload, 1) := by decide +kernel
theorem drf_Md_pass_23 : decode rfb_Md_pass 23 = .ok (.ifCond .eq 5, 3) := by decide +kernel
theorem drf_Md_pass_26 : decode rfb_Md_pass 26 = .ok (.iconst (-1), 1) := by decide +kernel
theorem drf_Md_pass_27 : decode rfb_Md_pass 27 = .ok (.ireturn, 1) := by decide +kernel
theorem drf_Md_pass_28 : decode rfb_Md_pass 28 = .ok (.aload_n 0, 1) := by decide +kernel
theorem drf_Md_pass_29 : decode rfb_Md_pass 29 = .ok (.getfield 46, 3) := by decide +kernel
theorem drf_Md_pass_32 : decode rfb_Md_pass 32 = .ok (.iload_n 1, 1) := by decide +kernel
theorem drf_Md_pass_33 : decode rfb_Md_pass 33 = .ok (.iload_n 2, 1) := by decide +kernel
theorem drf_Md_pass_34 : decode rfb_Md_pass 34 = .ok (.ifCond .eq 7, 3) := by decide +kernel
theorem drf_Md_pass_37 : decode rfb_Md_pass 37 = .ok (.iconst 1, 1) := by decide +kernel
theorem drf_Md_pass_38 : decode rfb_Md_pass 38 = .ok (.goto 4, 3) := by decide +kernel
theorem drf_Md_pass_41 : decode rfb_Md_pass 41 = .ok (.iconst 4, 1) := by decide +kernel
theorem drf_Md_pass_42 : decode rfb_Md_pass 42 = .ok (.iastore, 1) := by decide +kernel
theorem drf_Md_pass_43 : decode rfb_Md_pass 43 = .ok (.iload_n 2, 1) := by decide +kernel
theorem drf_Md_pass_44 : decode rfb_Md_pass 44 = .ok (.ifCond .ne 5, 3) := by decide +kernel
theorem drf_Md_pass_47 : decode rfb_Md_pass 47 = .ok (.iconst 0, 1) := by decide +kernel
theorem drf_Md_pass_48 : decode rfb_Md_pass 48 = .ok (.ireturn, 1) := by decide +kernel
theorem drf_Md_pass_49 : decode rfb_Md_pass 49 = .ok (.iconst 0, 1) := by decide +kernel
theorem drf_Md_pass_50 : decode rfb_Md_pass 50 = .ok (.istore_n 3, 1) := by decide +kernel
theorem drf_Md_pass_51 : decode rfb_Md_pass 51 = .ok (.iconst 0, 1) := by decide +kernel
theorem drf_Md_pass_52 : decode rfb_Md_pass 52 = .ok (.istore 4, 2) := by decide +kernel
theorem drf_Md_pass_54 : decode rfb_Md_pass 54 = .ok (.iconst 0, 1) := by decide +kernel
theorem drf_Md_pass_55 : decode rfb_Md_pass 55 = .ok (.istore 5, 2) := by decide +kernel
theorem drf_Md_pass_57 : decode rfb_Md_pass 57 = .ok (.iload 5, 2) := by decide +kernel
theorem drf_Md_pass_59 : decode rfb_Md_pass 59 = .ok (.aload_n 0, 1) := by decide +kernel
theorem drf_Md_pass_60 : decode rfb_Md_pass 60 = .ok (.getfield 71, 3) := by decide +kernel
theorem drf_Md_pass_63 : decode rfb_Md_pass 63 = .ok (.if_icmp .ge 63, 3) := by decide +kernel
theorem drf_Md_pass_66 : decode rfb_Md_pass 66 = .ok (.aload_n 0, 1) := by decide +kernel
theorem drf_Md_pass_67 : decode rfb_Md_pass 67 = .ok (.getfield 61, 3) := by decide +kernel
theorem drf_Md_pass_70 : decode rfb_Md_pass 70 = .ok (.bipush 12, 2) := by decide +kernel
theorem drf_Md_pass_72 : decode rfb_Md_pass 72 = .ok (.iload_n 1, 1) := by decide +kernel
theorem drf_Md_pass_73 : decode rfb_Md_pass 73 = .ok (.imul, 1) := by decide +kernel
theorem drf_Md_pass_74 : decode rfb_Md_pass 74 = .ok (.iload 5, 2) := by decide +kernel
theorem drf_Md_pass_76 : decode rfb_Md_pass 76 = .ok (.iadd, 1) := by decide +kernel
theorem drf_Md_pass_77 : decode rfb_Md_pass 77 = .ok (.iaload, 1) := by decide +kernel
theorem drf_Md_pass_78 : decode rfb_Md_pass 78 = .ok (.aload_n 0, 1) := by decide +kernel
theorem drf_Md_pass_79 : decode rfb_Md_pass 79 = .ok (.getfield 16, 3) := by decide +kernel
theorem drf_Md_pass_82 : decode rfb_Md_pass 82 = .ok (.iload 5, 2) := by decide +kernel
theorem drf_Md_pass_84 : decode rfb_Md_pass 84 = .ok (.iaload, 1) := by decide +kernel
theorem drf_Md_pass_85 : decode rfb_Md_pass 85 = .ok (.if_icmp .gt 6, 3) := by decide +kernel
theorem drf_Md_pass_88 : decode rfb_Md_pass 88 = .ok (.goto 32, 3) := by decide +kernel
theorem drf_Md_pass_91 : decode rfb_Md_pass 91 = .ok (.aload_n 0, 1) := by decide +kernel
theorem drf_Md_pass_92 : decode rfb_Md_pass 92 = .ok (.getfield 16, 3) := by decide +kernel
theorem drf_Md_pass_95 : decode rfb_Md_pass 95 = .ok (.iload 5, 2) := by decide +kernel
theorem drf_Md_pass_97 : decode rfb_Md_pass 97 = .ok (.aload_n 0, 1) := by decide +kernel
theorem drf_Md_pass_98 : decode rfb_Md_pass 98 = .ok (.getfield 61, 3) := by decide +kernel
theorem drf_Md_pass_101 : decode rfb_Md_pass 101 = .ok (.bipush 12, 2) := by decide +kernel
theorem drf_Md_pass_103 : decode rfb_Md_pass 103 = .ok (.iload_n 1, 1) := by decide +kernel
theorem drf_Md_pass_104 : decode rfb_Md_pass 104 = .ok (.imul, 1) := by decide +kernel
theorem drf_Md_pass_105 : decode rfb_Md_pass 105 = .ok (.iload 5, 2) := by decide +kernel
theorem drf_Md_pass_107 : decode rfb_Md_pass 107 = .ok (.iadd, 1) := by decide +kernel
theorem drf_Md_pass_108 : decode rfb_Md_pass 108 = .ok (.iaload, 1) := by decide +kernel
theorem drf_Md_pass_109 : decode rfb_Md_pass 109 = .ok (.iastore, 1) := by decide +kernel
theorem drf_Md_pass_110 : decode rfb_Md_pass 110 = .ok (.iload_n 3, 1) := by decide +kernel
theorem drf_Md_pass_111 : decode rfb_Md_pass 111 = .ok (.iconst 1, 1) := by decide +kernel
theorem drf_Md_pass_112 : decode rfb_Md_pass 112 = .ok (.iload 5, 2) := by decide +kernel
theorem drf_Md_pass_114 : decode rfb_Md_pass 114 = .ok (.ishl, 1) := by decide +kernel
theorem drf_Md_pass_115 : decode rfb_Md_pass 115 = .ok (.ior, 1) := by decide +kernel
theorem drf_Md_pass_116 : decode rfb_Md_pass 116 = .ok (.istore_n 3, 1) := by decide +kernel
theorem drf_Md_pass_117 : decode rfb_Md_pass 117 = .ok (.iinc 4 1, 3) := by decide +kernel
theorem drf_Md_pass_120 : decode rfb_Md_pass 120 = .ok (.iinc 5 1, 3) := by decide +kernel
theorem drf_Md_pass_123 : decode rfb_Md_pass 123 = .ok (.goto (-66), 3) := by decide +kernel
theorem drf_Md_pass_126 : decode rfb_Md_pass 126 = .ok (.iconst 0, 1) := by decide +kernel
theorem drf_Md_pass_127 : decode rfb_Md_pass 127 = .ok (.istore 5, 2) := by decide +kernel
theorem drf_Md_pass_129 : decode rfb_Md_pass 129 = .ok (.iload 5, 2) := by decide +kernel
theorem drf_Md_pass_131 : decode rfb_Md_pass 131 = .ok (.aload_n 0, 1) := by decide +kernel
theorem drf_Md_pass_132 : decode rfb_Md_pass 132 = .ok (.getfield 113, 3) := by decide +kernel
theorem drf_Md_pass_135 : decode rfb_Md_pass 135 = .ok (.if_icmp .ge 90, 3) := by decide +kernel
theorem drf_Md_pass_138 : decode rfb_Md_pass 138 = .ok (.iconst 0, 1) := by decide +kernel
theorem drf_Md_pass_139 : decode rfb_Md_pass 139 = .ok (.istore 6, 2) := by decide +kernel
theorem drf_Md_pass_141 : decode rfb_Md_pass 141 = .ok (.iconst 0, 1) := by decide +kernel
theorem drf_Md_pass_142 : decode rfb_Md_pass 142 = .ok (.istore 7, 2) := by decide +kernel
theorem drf_Md_pass_144 : decode rfb_Md_pass 144 = .ok (.iload 7, 2) := by decide +kernel
theorem drf_Md_pass_146 : decode rfb_Md_pass 146 = .ok (.aload_n 0, 1) := by decide +kernel
theorem drf_Md_pass_147 : decode rfb_Md_pass 147 = .ok (.getfield 71, 3) := by decide +kernel
theorem drf_Md_pass_150 : decode rfb_Md_pass 150 = .ok (.if_icmp .ge 48, 3) := by decide +kernel
theorem drf_Md_pass_153 : decode rfb_Md_pass 153 = .ok (.iload 6, 2) := by decide +kernel
theorem drf_Md_pass_155 : decode rfb_Md_pass 155 = .ok (.ifCond .ne 30, 3) := by decide +kernel
theorem drf_Md_pass_158 : decode rfb_Md_pass 158 = .ok (.iload_n 3, 1) := by decide +kernel
theorem drf_Md_pass_159 : decode rfb_Md_pass 159 = .ok (.iload 7, 2) := by decide +kernel
theorem drf_Md_pass_161 : decode rfb_Md_pass 161 = .ok (.ishr, 1) := by decide +kernel
theorem drf_Md_pass_162 : decode rfb_Md_pass 162 = .ok (.iconst 1, 1) := by decide +kernel
theorem drf_Md_pass_163 : decode rfb_Md_pass 163 = .ok (.iand, 1) := by decide +kernel
theorem drf_Md_pass_164 : decode rfb_Md_pass 164 = .ok (.iconst 1, 1) := by decide +kernel
theorem drf_Md_pass_165 : decode rfb_Md_pass 165 = .ok (.if_icmp .ne 24, 3) := by decide +kernel
theorem drf_Md_pass_168 : decode rfb_Md_pass 168 = .ok (.aload_n 0, 1) := by decide +kernel
theorem drf_Md_pass_169 : decode rfb_Md_pass 169 = .ok (.getfield 61, 3) := by decide +kernel
theorem drf_Md_pass_172 : decode rfb_Md_pass 172 = .ok (.bipush 12, 2) := by decide +kernel
theorem drf_Md_pass_174 : decode rfb_Md_pass 174 = .ok (.iload 5, 2) := by decide +kernel
theorem drf_Md_pass_176 : decode rfb_Md_pass 176 = .ok (.imul, 1) := by decide +kernel
theorem drf_Md_pass_177 : decode rfb_Md_pass 177 = .ok (.iload 7, 2) := by decide +kernel
theorem drf_Md_pass_179 : decode rfb_Md_pass 179 = .ok (.iadd, 1) := by decide +kernel
theorem drf_Md_pass_180 : decode rfb_Md_pass 180 = .ok (.iaload, 1) := by decide +kernel
theorem drf_Md_pass_181 : decode rfb_Md_pass 181 = .ok (.iconst (-1), 1) := by decide +kernel
theorem drf_Md_pass_182 : decode rfb_Md_pass 182 = .ok (.if_icmp .eq 7, 3) := by decide +kernel
theorem drf_Md_pass_185 : decode rfb_Md_pass 185 = .ok (.iconst 1, 1) := by decide +kernel
theorem drf_Md_pass_186 : decode rfb_Md_pass 186 = .ok (.goto 4, 3) := by decide +kernel
theorem drf_Md_pass_189 : decode rfb_Md_pass 189 = .ok (.iconst 0, 1) := by decide +kernel
theorem drf_Md_pass_190 : decode rfb_Md_pass 190 = .ok (.istore 6, 2) := by decide +kernel
theorem drf_Md_pass_192 : decode rfb_Md_pass 192 = .ok (.iinc 7 1, 3) := by decide +kernel
theorem drf_Md_pass_195 : decode rfb_Md_pass 195 = .ok (.goto (-51), 3) := by decide +kernel
theorem drf_Md_pass_198 : decode rfb_Md_pass 198 = .ok (.aload_n 0, 1) := by decide +kernel
theorem drf_Md_pass_199 : decode rfb_Md_pass 199 = .ok (.getfield 46, 3) := by decide +kernel
theorem drf_Md_pass_202 : decode rfb_Md_pass 202 = .ok (.iload 5, 2) := by decide +kernel
theorem drf_Md_pass_204 : decode rfb_Md_pass 204 = .ok (.iaload, 1) := by decide +kernel
theorem drf_Md_pass_205 : decode rfb_Md_pass 205 = .ok (.ifCond .ne 14, 3) := by decide +kernel
theorem drf_Md_pass_208 : decode rfb_Md_pass 208 = .ok (.iload 6, 2) := by decide +kernel
theorem drf_Md_pass_210 : decode rfb_Md_pass 210 = .ok (.ifCond .eq 9, 3) := by decide +kernel
theorem drf_Md_pass_213 : decode rfb_Md_pass 213 = .ok (.aload_n 0, 1) := by decide +kernel
theorem drf_Md_pass_214 : decode rfb_Md_pass 214 = .ok (.iload 5, 2) := by decide +kernel
theorem drf_Md_pass_216 : decode rfb_Md_pass 216 = .ok (.invokevirtual 142, 3) := by decide +kernel
theorem drf_Md_pass_219 : decode rfb_Md_pass 219 = .ok (.iinc 5 1, 3) := by decide +kernel
theorem drf_Md_pass_222 : decode rfb_Md_pass 222 = .ok (.goto (-93), 3) := by decide +kernel
theorem drf_Md_pass_225 : decode rfb_Md_pass 225 = .ok (.iload 4, 2) := by decide +kernel
theorem drf_Md_pass_227 : decode rfb_Md_pass 227 = .ok (.ireturn, 1) := by decide +kernel
theorem drf_Md_open_0 : decode rfb_Md_open 0 = .ok (.aload_n 0, 1) := by decide +kernel
theorem drf_Md_open_1 : decode rfb_Md_open 1 = .ok (.iconst 0, 1) := by decide +kernel
theorem drf_Md_open_2 : decode rfb_Md_open 2 = .ok (.putfield 68, 3) := by decide +kernel
theorem drf_Md_open_5 : decode rfb_Md_open 5 = .ok (.iload_n 1, 1) := by decide +kernel
theorem drf_Md_open_6 : decode rfb_Md_open 6 = .ok (.ifCond .lt 8, 3) := by decide +kernel
theorem drf_Md_open_9 : decode rfb_Md_open 9 = .ok (.iload_n 1, 1) := by decide +kernel
theorem drf_Md_open_10 : decode rfb_Md_open 10 = .ok (.iconst 2, 1) := by decide +kernel
theorem drf_Md_open_11 : decode rfb_Md_open 11 = .ok (.if_icmp .le 7, 3) := by decide +kernel
theorem drf_Md_open_14 : decode rfb_Md_open 14 = .ok (.iconst (-1), 1) := by decide +kernel
theorem drf_Md_open_15 : decode rfb_Md_open 15 = .ok (.goto 8, 3) := by decide +kernel
theorem drf_Md_open_18 : decode rfb_Md_open 18 = .ok (.aload_n 0, 1) := by decide +kernel
theorem drf_Md_open_19 : decode rfb_Md_open 19 = .ok (.iload_n 1, 1) := by decide +kernel
theorem drf_Md_open_20 : decode rfb_Md_open 20 = .ok (.invokevirtual 126, 3) := by decide +kernel
theorem drf_Md_open_23 : decode rfb_Md_open 23 = .ok (.ireturn, 1) := by decide +kernel
end
section
/-! the state of a system: numbers by array and place; one place is written -/
abbrev ST : Type := Nat → Nat → Int32
def wr (σ : ST) (i j : Nat) (v : Int32) : ST := fun i' j' => if i' = i then (if j' = j then v else σ i' j') else σ i' j'
abbrev ub_in (x : Int32) (n : Nat) : Prop := ¬ (x < 0 ∨ n ≤ x.toNatClampNeg)
theorem wr_row (σ : ST) (i j : Nat) (v : Int32) : wr σ i j v i = upd (σ i) j v := by
  funext j'
  simp [wr, upd]
theorem wr_ne {σ : ST} {i j : Nat} {v : Int32} {i' : Nat} (h : i' ≠ i) : wr σ i j v i' = σ i' := by
  funext j'
  simp [wr, h]
/-! a function's text along a walk: a branch taken or not, a place in range, a call that answered -/
theorem ob_t {α : Type} {c : Prop} [Decidable c] {x y : Option α} {r : α} (hc : c) (h : (if c then x else y) = some r) : x = some r := by
  rw [if_pos hc] at h
  exact h
theorem ob_f {α : Type} {c : Prop} [Decidable c] {x y : Option α} {r : α} (hc : ¬ c) (h : (if c then x else y) = some r) : y = some r := by
  rw [if_neg hc] at h
  exact h
theorem ob_i {α : Type} {c : Prop} [Decidable c] {x : Option α} {r : α} (h : (if c then x else none) = some r) : c ∧ x = some r := by
  by_cases hc : c
  · rw [if_pos hc] at h
    exact ⟨hc, h⟩
  · rw [if_neg hc] at h
    cases h
theorem ob_b {α β : Type} {x : Option α} {f : α → Option β} {r : β} (h : Option.bind x f = some r) : ∃ y, x = some y ∧ f y = some r := by
  cases x with
  | none => cases h
  | some y => exact ⟨y, rfl, h⟩
theorem ub_nar {v : Int32} (h : v = 0 ∨ v = 1) : narrow .boolean (.int v) = .int v := by
  rcases h with h | h
  · rw [h]; rfl
  · rw [h]; rfl
theorem ob_cs {c A : Prop} (t : c → A) (f : ¬ c → A) : A := by
  by_cases hc : c
  · exact t hc
  · exact f hc
section ubSEC
variable {p : Program} {l : Launch} {e : Env} {R : Room} {s : State} {m : MethodId} {args : Array Value} {below : List Frame} {meth : Method} {c : Code} {H : Heap} {locs : List Loc} {cells slots : Nat} {Q : State → Prop}
variable {cc : ByteArray} {pc : Nat} {ls : Array Slot} {rest : List Value} {D : va_G} {a : Nat → Nat} {k : Nat → ClassId} {σ : ST} {H0 : Heap}
variable {ws : va_W} {cl : List vw_C} {tys : List (ClassId × FieldType)}
/-- aaload out of an array of int arrays -/
theorem ub_aald {q0 t0 n : Nat} {cA : ClassId} {b : Nat} {f : Nat → Option Nat} {x : Int32} (hx : p.tables.exec = Jvm.exec) (hb : c.code = cc) (hK : va_K D cl tys s) (hP : va_P D cl ws H) (ha : ws[q0]? = some (b, .inl (cA, n, .inr (.inr (.inr (.inr f)))))) (ht : tys[t0]? = some (cA, .array .int)) (hin : ub_in x n) (hdg : decode cc pc = .ok (.aaload, 1))
    (kk : W p l e R s m args below meth c H locs cells slots Q (F0 m (pc + 1) ls (va_rf (f x.toNatClampNeg) :: rest))) : W p l e R s m args below meth c H locs cells slots Q (F0 m pc ls (.int x :: .ref b :: rest)) := by
  have hlt : x.toNatClampNeg < n := Nat.not_le.mp fun q => hin (Or.inr q)
  have hsz : (arrV cA n (fun j => va_rf (f j))).slots.size = n := arrV_size _ _ _
  have hrd : (arrV cA n (fun j => va_rf (f j))).slots[x.toNatClampNeg]? = some (va_rf (f x.toNatClampNeg)) := arrV_read _ _ hlt
  have hcell : H[b]? = some (arrV cA n (fun j => va_rf (f j))) := hP q0 _ ha
  exact W.aald (ty := .array .int) hx hb hcell ((hK.2 t0 _ ht).1 n (fun j => va_rf (f j))) rfl (fun q => by cases q) (by rw [hsz]; exact hin) hrd rfl rfl hdg kk
end ubSEC
def ur_len (i : Nat) : Nat := if i < 10 then 12 else if i < 14 then 60 else if i < 50 then 8 else 12
def ur_X (a : Nat → Nat) (k : Nat → ClassId) (σ : ST) : va_W := [
  (a 0, .inr (0, [.int (σ 111 0), .ref (a 1), .ref (a 2), .ref (a 3), .int (σ 111 1), .int (σ 111 2)])),
  (a 1, .inr (1, [.int (σ 111 3), .ref (a (0 + 9)), .ref (a (1 + 9)), .ref (a (2 + 9)), .ref (a (3 + 9)), .ref (a (4 + 9)), .ref (a (5 + 9)), .ref (a (6 + 9)), .ref (a (7 + 9)), .ref (a 5), .ref (a 6), .ref (a 7)])),
  (a 2, .inr (2, [.ref (a (8 + 9)), .ref (a (9 + 9))])),
  (a 3, .inr (3, [.int (σ 111 4), .ref (a (10 + 9)), .ref (a (11 + 9)), .ref (a (12 + 9)), .ref (a (13 + 9)), .ref (a 4), .ref (a 8)])),
  (a 4, .inl (k 1, 60, .inl (σ 110))),
  (a 5, .inl (k 2, 12, .inr (.inr (.inr (.inr (fun i => some (a (i + 14 + 9)))))))),
  (a 6, .inl (k 2, 12, .inr (.inr (.inr (.inr (fun i => some (a (i + 26 + 9)))))))),
  (a 7, .inl (k 2, 12, .inr (.inr (.inr (.inr (fun i => some (a (i + 38 + 9)))))))),
  (a 8, .inl (k 2, 60, .inr (.inr (.inr (.inr (fun i => some (a (i + 50 + 9))))))))]
def ur_cells (a : Nat → Nat) (k : Nat → ClassId) (σ : ST) : va_W := ur_X a k σ ++ (List.range 110).map (fun i => (a (i + 9), .inl (k 0, ur_len i, .inl (σ i))))
def ur_P (D : va_G) (a : Nat → Nat) (k : Nat → ClassId) (σ : ST) (H : Heap) : Prop := va_P D ub_cl (ur_cells a k σ) H
abbrev ub_K (D : va_G) (k : Nat → ClassId) (s : State) : Prop := va_K D ub_cl [(k 0, .int), (k 1, .boolean), (k 2, .array .int)] s

/-- the addresses are apart -/
def ur_Ad (a : Nat → Nat) : Prop := ∀ i j : Nat, i < 119 → j < 119 → a i = a j → i = j
def ur_A (a : Nat → Nat) : Nat → Prop := fun q => ∃ i : Nat, i < 119 ∧ q = a i
abbrev ur_B (D : va_G) (a : Nat → Nat) (k : Nat → ClassId) (u : ST) (t : State) : Prop := ur_P D a k u t.heap ∧ ub_K D k t
abbrev ur_Pc (D : va_G) (a : Nat → Nat) (k : Nat → ClassId) (σ : ST) (av : List Value) : Array Value → State → Prop := va_Pc av (fun U => ur_P D a k σ U.heap ∧ ub_K D k U)
theorem ur_blind {D : va_G} {a : Nat → Nat} {k : Nat → ClassId} {σ : ST} {av : List Value} : FrameBlind (ur_Pc D a k σ av) := fun v U g mk q => by
  obtain ⟨q0, qP, qK⟩ := q
  exact ⟨q0, qP, va_K.moved (u := U) (U := U.calling g mk v) (Vm.Alike.refl U.vm) qK⟩
theorem ur_at {a : Nat → Nat} {k : Nat → ClassId} {σ : ST} {i : Nat} (hi : i < 110) : (ur_cells a k σ)[i + 9]? = some (a (i + 9), .inl (k 0, ur_len i, .inl (σ i))) := by
  unfold ur_cells
  rw [List.getElem?_append_right (show (ur_X a k σ).length ≤ i + 9 from Nat.le_add_left _ _)]
  rw [show i + 9 - (ur_X a k σ).length = i from Nat.add_sub_cancel i 9]
  rw [List.getElem?_map, List.getElem?_range hi]
  rfl
theorem ur_at0 {a : Nat → Nat} {k : Nat → ClassId} {σ : ST} {i : Nat} (hi : i < 9) : (ur_cells a k σ)[i]? = (ur_X a k σ)[i]? := by
  unfold ur_cells
  rw [List.getElem?_append_left (show i < (ur_X a k σ).length from hi)]
theorem ur_fst {a : Nat → Nat} {k : Nat → ClassId} {σ : ST} {i : Nat} {q : Nat × va_E} (h : (ur_cells a k σ)[i]? = some q) : i < 119 ∧ q.1 = a i := by
  by_cases h0 : i < 9
  · rw [ur_at0 h0] at h
    refine ⟨by omega, ?_⟩
    match i, h0, h with
    | 0, _, h => cases h; rfl
    | 1, _, h => cases h; rfl
    | 2, _, h => cases h; rfl
    | 3, _, h => cases h; rfl
    | 4, _, h => cases h; rfl
    | 5, _, h => cases h; rfl
    | 6, _, h => cases h; rfl
    | 7, _, h => cases h; rfl
    | 8, _, h => cases h; rfl
    | j + 9, h0, _ => exact absurd h0 (by omega)
  · obtain ⟨j, rfl⟩ : ∃ j, i = j + 9 := ⟨i - 9, by omega⟩
    by_cases h1 : j < 110
    · rw [ur_at h1] at h
      cases h
      exact ⟨by omega, rfl⟩
    · exfalso
      have h2 := (List.getElem?_eq_some_iff.mp h).1
      have h3 : (ur_cells a k σ).length = 9 + 110 := by
        unfold ur_cells
        rw [List.length_append, List.length_map, List.length_range]
        rfl
      omega
theorem ur_D {a : Nat → Nat} {k : Nat → ClassId} {σ : ST} (h : ur_Ad a) : va_D (ur_A a) (ur_cells a k σ) :=
  ⟨fun i j x y hi hj hxy => h i j (ur_fst hi).1 (ur_fst hj).1 (by rw [← (ur_fst hi).2, ← (ur_fst hj).2]; exact hxy), fun i x hi => ⟨i, (ur_fst hi).1, (ur_fst hi).2⟩⟩
theorem ur_setA {a : Nat → Nat} {k : Nat → ClassId} {σ : ST} {i j : Nat} {v : Int32} (hi : i < 110) : (ur_cells a k σ).set (i + 9) (a (i + 9), .inl (k 0, ur_len i, .inl (upd (σ i) j v))) = ur_cells a k (wr σ i j v) := by
  have e1 : wr σ i j v 111 = σ 111 := wr_ne (by omega)
  have e2 : wr σ i j v 110 = σ 110 := wr_ne (by omega)
  have hX : ur_X a k (wr σ i j v) = ur_X a k σ := by
    unfold ur_X
    rw [e1, e2]
  apply List.ext_getElem?
  intro x
  by_cases hx : x = i + 9
  · subst hx
    rw [ur_at hi, wr_row, List.getElem?_set_self]
    exact (List.getElem?_eq_some_iff.mp (ur_at hi)).1
  · rw [List.getElem?_set_ne (Ne.symm hx)]
    by_cases h0 : x < 9
    · rw [ur_at0 h0, ur_at0 h0, hX]
    · obtain ⟨j', rfl⟩ : ∃ j', x = j' + 9 := ⟨x - 9, by omega⟩
      by_cases h1 : j' < 110
      · rw [ur_at h1, ur_at h1, wr_ne (by omega)]
      · have q : ∀ τ : ST, (ur_cells a k τ)[j' + 9]? = none := by
          intro τ
          cases hq : (ur_cells a k τ)[j' + 9]? with
          | none => rfl
          | some y => exact absurd (ur_fst hq).1 (by omega)
        rw [q, q]
/-- the same cells but for one of the first places -/
theorem ur_set0 {a : Nat → Nat} {k : Nat → ClassId} {σ τ : ST} {x : Nat} {y : Nat × va_E} (hx : x < 9) (h1 : ∀ i, i < 110 → τ i = σ i) (h2 : (ur_X a k σ).set x y = ur_X a k τ) : (ur_cells a k σ).set x y = ur_cells a k τ := by
  unfold ur_cells
  rw [List.set_append_left x y (show x < (ur_X a k σ).length from hx), h2]
  congr 1
  apply List.map_congr_left
  intro i hi
  rw [h1 i (List.mem_range.mp hi)]
section urSEC
variable {p : Program} {l : Launch} {e : Env} {R : Room} {s : State} {m : MethodId} {args : Array Value} {below : List Frame} {meth : Method} {c : Code} {H : Heap} {locs : List Loc} {cells slots : Nat} {Q : State → Prop}
variable {cc : ByteArray} {pc : Nat} {ls : Array Slot} {rest : List Value} {D : va_G} {a : Nat → Nat} {k : Nat → ClassId} {σ : ST} {H0 : Heap}
theorem ur_iald {i n : Nat} {x : Int32} (hx : p.tables.exec = Jvm.exec) (hb : c.code = cc) (hK : ub_K D k s) (hP : ur_P D a k σ H) (hi : i < 110) (hn : ur_len i = n) (hin : ub_in x n) (hdg : decode cc pc = .ok (.iaload, 1))
    (kk : W p l e R s m args below meth c H locs cells slots Q (F0 m (pc + 1) ls (.int (σ i x.toNatClampNeg) :: rest))) : W p l e R s m args below meth c H locs cells slots Q (F0 m pc ls (.int x :: .ref (a (i + 9)) :: rest)) :=
  va_iald hx hb hK hP (i + 9) 0 (ur_at hi) rfl (hn ▸ hin) hdg kk
theorem ur_iast {i n : Nat} {x v : Int32} (hx : p.tables.exec = Jvm.exec) (hb : c.code = cc) (hK : ub_K D k s) (hP : ur_P D a k σ H) (hAd : ur_Ad a) (hS : va_S (ur_A a) H0 H locs) (hi : i < 110) (hn : ur_len i = n) (hin : ub_in x n) (hdg : decode cc pc = .ok (.iastore, 1))
    (kk : ∀ (H1 : Heap) (locs1 : List Loc), ur_P D a k (wr σ i x.toNatClampNeg v) H1 → va_S (ur_A a) H0 H1 locs1 → W p l e R s m args below meth c H1 locs1 cells slots Q (F0 m (pc + 1) ls rest)) : W p l e R s m args below meth c H locs cells slots Q (F0 m pc ls (.int v :: .int x :: .ref (a (i + 9)) :: rest)) :=
  va_iast hx hb hK hP (ur_D hAd) hS (i + 9) 0 (ur_at hi) rfl (hn ▸ hin) hdg (fun H1 locs1 hP1 _ hS1 => kk H1 locs1 (by rw [ur_setA hi] at hP1; exact hP1) hS1)
theorem ur_alen {i : Nat} (hx : p.tables.exec = Jvm.exec) (hb : c.code = cc) (hK : ub_K D k s) (hP : ur_P D a k σ H) (hi : i < 110) (hdg : decode cc pc = .ok (.arraylength, 1))
    (kk : W p l e R s m args below meth c H locs cells slots Q (F0 m (pc + 1) ls (.int (nI (ur_len i)) :: rest))) : W p l e R s m args below meth c H locs cells slots Q (F0 m pc ls (.ref (a (i + 9)) :: rest)) :=
  va_alen hx hb hK hP (i + 9) 0 (ur_at hi) rfl rfl hdg kk
theorem ur_zald {x : Int32} (hx : p.tables.exec = Jvm.exec) (hb : c.code = cc) (hK : ub_K D k s) (hP : ur_P D a k σ H) (hin : ub_in x 60) (hdg : decode cc pc = .ok (.baload, 1))
    (kk : W p l e R s m args below meth c H locs cells slots Q (F0 m (pc + 1) ls (.int (σ 110 x.toNatClampNeg) :: rest))) : W p l e R s m args below meth c H locs cells slots Q (F0 m pc ls (.int x :: .ref (a 4) :: rest)) :=
  va_zald hx hb hK hP 4 1 rfl rfl hin hdg kk
theorem ur_zast {x v : Int32} (hx : p.tables.exec = Jvm.exec) (hb : c.code = cc) (hK : ub_K D k s) (hP : ur_P D a k σ H) (hAd : ur_Ad a) (hS : va_S (ur_A a) H0 H locs) (hin : ub_in x 60) (hdg : decode cc pc = .ok (.bastore, 1))
    (kk : ∀ (H1 : Heap) (locs1 : List Loc), ur_P D a k (wr σ 110 x.toNatClampNeg (vp_nar .boolean v)) H1 → va_S (ur_A a) H0 H1 locs1 → W p l e R s m args below meth c H1 locs1 cells slots Q (F0 m (pc + 1) ls rest)) : W p l e R s m args below meth c H locs cells slots Q (F0 m pc ls (.int v :: .int x :: .ref (a 4) :: rest)) :=
  va_zast hx hb hK hP (ur_D hAd) hS 4 1 rfl rfl hin hdg (fun H1 locs1 hP1 _ hS1 => kk H1 locs1 (by
    rw [ur_set0 (τ := wr σ 110 x.toNatClampNeg (vp_nar .boolean v)) (by decide) (fun i hi => wr_ne (by omega)) ?_] at hP1
    · exact hP1
    · show _ = _
      unfold ur_X
      rw [wr_row, wr_ne (i' := 111) (by decide)]
      rfl) hS1)
theorem ur_glt0 {x : Int32} (h : ub_in x 12) : x.toNatClampNeg + 14 < 110 := by
  have := Nat.not_le.mp (fun q => h (Or.inr q))
  omega
theorem ur_gln0 {x : Int32} (h : ub_in x 12) : ur_len (x.toNatClampNeg + 14) = 8 := by
  have := Nat.not_le.mp (fun q => h (Or.inr q))
  unfold ur_len
  repeat' split
  all_goals omega
theorem ur_gald0 {x : Int32} (hx : p.tables.exec = Jvm.exec) (hb : c.code = cc) (hK : ub_K D k s) (hP : ur_P D a k σ H) (hin : ub_in x 12) (hdg : decode cc pc = .ok (.aaload, 1))
    (kk : W p l e R s m args below meth c H locs cells slots Q (F0 m (pc + 1) ls (.ref (a (x.toNatClampNeg + 14 + 9)) :: rest))) : W p l e R s m args below meth c H locs cells slots Q (F0 m pc ls (.int x :: .ref (a 5) :: rest)) :=
  ub_aald hx hb hK hP (q0 := 5) (t0 := 2) rfl rfl hin hdg kk
theorem ur_glt1 {x : Int32} (h : ub_in x 12) : x.toNatClampNeg + 26 < 110 := by
  have := Nat.not_le.mp (fun q => h (Or.inr q))
  omega
theorem ur_gln1 {x : Int32} (h : ub_in x 12) : ur_len (x.toNatClampNeg + 26) = 8 := by
  have := Nat.not_le.mp (fun q => h (Or.inr q))
  unfold ur_len
  repeat' split
  all_goals omega
theorem ur_gald1 {x : Int32} (hx : p.tables.exec = Jvm.exec) (hb : c.code = cc) (hK : ub_K D k s) (hP : ur_P D a k σ H) (hin : ub_in x 12) (hdg : decode cc pc = .ok (.aaload, 1))
    (kk : W p l e R s m args below meth c H locs cells slots Q (F0 m (pc + 1) ls (.ref (a (x.toNatClampNeg + 26 + 9)) :: rest))) : W p l e R s m args below meth c H locs cells slots Q (F0 m pc ls (.int x :: .ref (a 6) :: rest)) :=
  ub_aald hx hb hK hP (q0 := 6) (t0 := 2) rfl rfl hin hdg kk
theorem ur_glt2 {x : Int32} (h : ub_in x 12) : x.toNatClampNeg + 38 < 110 := by
  have := Nat.not_le.mp (fun q => h (Or.inr q))
  omega
theorem ur_gln2 {x : Int32} (h : ub_in x 12) : ur_len (x.toNatClampNeg + 38) = 8 := by
  have := Nat.not_le.mp (fun q => h (Or.inr q))
  unfold ur_len
  repeat' split
  all_goals omega
theorem ur_gald2 {x : Int32} (hx : p.tables.exec = Jvm.exec) (hb : c.code = cc) (hK : ub_K D k s) (hP : ur_P D a k σ H) (hin : ub_in x 12) (hdg : decode cc pc = .ok (.aaload, 1))
    (kk : W p l e R s m args below meth c H locs cells slots Q (F0 m (pc + 1) ls (.ref (a (x.toNatClampNeg + 38 + 9)) :: rest))) : W p l e R s m args below meth c H locs cells slots Q (F0 m pc ls (.int x :: .ref (a 7) :: rest)) :=
  ub_aald hx hb hK hP (q0 := 7) (t0 := 2) rfl rfl hin hdg kk
theorem ur_glt3 {x : Int32} (h : ub_in x 60) : x.toNatClampNeg + 50 < 110 := by
  have := Nat.not_le.mp (fun q => h (Or.inr q))
  omega
theorem ur_gln3 {x : Int32} (h : ub_in x 60) : ur_len (x.toNatClampNeg + 50) = 12 := by
  have := Nat.not_le.mp (fun q => h (Or.inr q))
  unfold ur_len
  repeat' split
  all_goals omega
theorem ur_gald3 {x : Int32} (hx : p.tables.exec = Jvm.exec) (hb : c.code = cc) (hK : ub_K D k s) (hP : ur_P D a k σ H) (hin : ub_in x 60) (hdg : decode cc pc = .ok (.aaload, 1))
    (kk : W p l e R s m args below meth c H locs cells slots Q (F0 m (pc + 1) ls (.ref (a (x.toNatClampNeg + 50 + 9)) :: rest))) : W p l e R s m args below meth c H locs cells slots Q (F0 m pc ls (.int x :: .ref (a 8) :: rest)) :=
  ub_aald hx hb hK hP (q0 := 8) (t0 := 2) rfl rfl hin hdg kk
theorem ur_rc0 (hK : ub_K D k s) (hP : ur_P D a k σ H) : ∃ cell : Cell, H[a 0]? = some cell ∧ cell.vm.isStatics = false ∧ s.vm.findClass urR_Rb = some cell.cls := va_recv hK hP (ci := 0) (q0 := 0) rfl rfl
theorem ur_rc1 (hK : ub_K D k s) (hP : ur_P D a k σ H) : ∃ cell : Cell, H[a 1]? = some cell ∧ cell.vm.isStatics = false ∧ s.vm.findClass urR_Nm = some cell.cls := va_recv hK hP (ci := 1) (q0 := 1) rfl rfl
theorem ur_rc2 (hK : ub_K D k s) (hP : ur_P D a k σ H) : ∃ cell : Cell, H[a 2]? = some cell ∧ cell.vm.isStatics = false ∧ s.vm.findClass urR_So = some cell.cls := va_recv hK hP (ci := 2) (q0 := 2) rfl rfl
theorem ur_rc3 (hK : ub_K D k s) (hP : ur_P D a k σ H) : ∃ cell : Cell, H[a 3]? = some cell ∧ cell.vm.isStatics = false ∧ s.vm.findClass urR_Pr = some cell.cls := va_recv hK hP (ci := 3) (q0 := 3) rfl rfl
variable {y : MethodName} {bytes : ByteArray} {maxL nL n index : Nat} {ret : Option FieldType} {ws : List Cond} {rm : Room} {own C : String} {b : Addr} {As st0 : List Value}
theorem ur_cv_ir {res : Int32} (S : CallFix p m c cc nL s args ub_T own) (hM : Met l y ws rm (ur_Pc D a k σ (.ref b :: As)) (va_Qi (fun (r : Int32) (u : ST) => r = res ∧ u = σ) (ur_B D a k) (ur_A a)) 0 0 (ur_A a)) (cw : CallW R s args own C index y bytes maxL ret ws rm 0 0 n) (hrc : ∃ cell : Cell, H[b]? = some cell ∧ cell.vm.isStatics = false ∧ s.vm.findClass C = some cell.cls) (hK : ub_K D k s) (hP : ur_P D a k σ H)
    (hn : As.length = n) (hsz : ls.size = nL) (hst : st0 = As.reverse ++ .ref b :: rest) (hW : (rest.map fun v => v.category).sum ≤ 8) (hdg : decode cc pc = .ok (.invokevirtual index, 3)) (hS : va_S (ur_A a) H0 H locs)
    (kk : ∀ (H1 : Heap) (locs1 : List Loc), ur_P D a k σ H1 → va_S (ur_A a) H0 H1 locs1 → W p l e R s m args below meth c H1 locs1 0 0 Q (F0 m (pc + 3) ls (.int res :: rest))) : W p l e R s m args below meth c H locs 0 0 Q (F0 m pc ls st0) :=
  va_calli (va_runV (As := As) (rest := rest) S hM cw ⟨ur_blind, hrc, fun U hU hW => ⟨rfl, by rw [hU]; exact hP, va_K.moved hW.alike hK⟩⟩ rfl hn hsz hst (lv_room hW) hdg ⟨Nat.zero_le _, Nat.zero_le _⟩) hS (fun q _ h => h) (fun q h => h) (fun r u t H1 locs1 ht _ hw hB _ _ hS => by
    obtain ⟨h1, h2⟩ := hw
    subst h1
    subst h2
    exact kk H1 locs1 (by rw [← ht]; exact hB.1) hS)
theorem ur_cv_iw {res : Int32 × ST} (S : CallFix p m c cc nL s args ub_T own) (hM : Met l y ws rm (ur_Pc D a k σ (.ref b :: As)) (va_Qi (fun (r : Int32) (u : ST) => r = res.1 ∧ u = res.2) (ur_B D a k) (ur_A a)) 0 0 (ur_A a)) (cw : CallW R s args own C index y bytes maxL ret ws rm 0 0 n) (hrc : ∃ cell : Cell, H[b]? = some cell ∧ cell.vm.isStatics = false ∧ s.vm.findClass C = some cell.cls) (hK : ub_K D k s) (hP : ur_P D a k σ H)
    (hn : As.length = n) (hsz : ls.size = nL) (hst : st0 = As.reverse ++ .ref b :: rest) (hW : (rest.map fun v => v.category).sum ≤ 8) (hdg : decode cc pc = .ok (.invokevirtual index, 3)) (hS : va_S (ur_A a) H0 H locs)
    (kk : ∀ (H1 : Heap) (locs1 : List Loc), ur_P D a k res.2 H1 → va_S (ur_A a) H0 H1 locs1 → W p l e R s m args below meth c H1 locs1 0 0 Q (F0 m (pc + 3) ls (.int res.1 :: rest))) : W p l e R s m args below meth c H locs 0 0 Q (F0 m pc ls st0) :=
  va_calli (va_runV (As := As) (rest := rest) S hM cw ⟨ur_blind, hrc, fun U hU hW => ⟨rfl, by rw [hU]; exact hP, va_K.moved hW.alike hK⟩⟩ rfl hn hsz hst (lv_room hW) hdg ⟨Nat.zero_le _, Nat.zero_le _⟩) hS (fun q _ h => h) (fun q h => h) (fun r u t H1 locs1 ht _ hw hB _ _ hS => by
    obtain ⟨h1, h2⟩ := hw
    rw [h1]
    exact kk H1 locs1 (by rw [← ht, ← h2]; exact hB.1) hS)
theorem ur_cv_v {res : ST} (S : CallFix p m c cc nL s args ub_T own) (hM : Met l y ws rm (ur_Pc D a k σ (.ref b :: As)) (va_Qv (fun (u : ST) => u = res) (ur_B D a k) (ur_A a)) 0 0 (ur_A a)) (cw : CallW R s args own C index y bytes maxL ret ws rm 0 0 n) (hrc : ∃ cell : Cell, H[b]? = some cell ∧ cell.vm.isStatics = false ∧ s.vm.findClass C = some cell.cls) (hK : ub_K D k s) (hP : ur_P D a k σ H)
    (hn : As.length = n) (hsz : ls.size = nL) (hst : st0 = As.reverse ++ .ref b :: rest) (hW : (rest.map fun v => v.category).sum ≤ 8) (hdg : decode cc pc = .ok (.invokevirtual index, 3)) (hS : va_S (ur_A a) H0 H locs)
    (kk : ∀ (H1 : Heap) (locs1 : List Loc), ur_P D a k res H1 → va_S (ur_A a) H0 H1 locs1 → W p l e R s m args below meth c H1 locs1 0 0 Q (F0 m (pc + 3) ls rest)) : W p l e R s m args below meth c H locs 0 0 Q (F0 m pc ls st0) :=
  va_callv (va_runV (As := As) (rest := rest) S hM cw ⟨ur_blind, hrc, fun U hU hW => ⟨rfl, by rw [hU]; exact hP, va_K.moved hW.alike hK⟩⟩ rfl hn hsz hst (lv_room hW) hdg ⟨Nat.zero_le _, Nat.zero_le _⟩) hS (fun q _ h => h) (fun q h => h) (fun u t H1 locs1 ht _ hw hB _ _ hS => kk H1 locs1 (by rw [← ht, ← hw]; exact hB.1) hS)
theorem ur_cs_ir {res : Int32} (S : CallFix p m c cc nL s args ub_T own) (hM : Met l y ws rm (ur_Pc D a k σ As) (va_Qi (fun (r : Int32) (u : ST) => r = res ∧ u = σ) (ur_B D a k) (ur_A a)) 0 0 (ur_A a)) (cw : CallB R s args own index y bytes maxL ret ws rm 0 0 n ∧ (Cond.static y).before args s = true) (hK : ub_K D k s) (hP : ur_P D a k σ H)
    (hn : As.length = n) (hsz : ls.size = nL) (hst : st0 = As.reverse ++ rest) (hW : (rest.map fun v => v.category).sum ≤ 8) (hdg : decode cc pc = .ok (.invokestatic index, 3)) (hS : va_S (ur_A a) H0 H locs)
    (kk : ∀ (H1 : Heap) (locs1 : List Loc), ur_P D a k σ H1 → va_S (ur_A a) H0 H1 locs1 → W p l e R s m args below meth c H1 locs1 0 0 Q (F0 m (pc + 3) ls (.int res :: rest))) : W p l e R s m args below meth c H locs 0 0 Q (F0 m pc ls st0) :=
  va_calli (va_runS (As := As) (rest := rest) S hM cw ⟨ur_blind, fun U hU hW => ⟨rfl, by rw [hU]; exact hP, va_K.moved hW.alike hK⟩⟩ rfl hn hsz hst (lv_room hW) hdg ⟨Nat.zero_le _, Nat.zero_le _⟩) hS (fun q _ h => h) (fun q h => h) (fun r u t H1 locs1 ht _ hw hB _ _ hS => by
    obtain ⟨h1, h2⟩ := hw
    subst h1
    subst h2
    exact kk H1 locs1 (by rw [← ht]; exact hB.1) hS)
end urSEC
def rf_len (i : Nat) : Nat := if i < 1 then 12 else if i < 2 then 12 else if i < 3 then 12 else if i < 4 then 12 else if i < 5 then 12 else if i < 6 then 12 else if i < 7 then 12 else if i < 8 then 12 else if i < 9 then 96 else if i < 10 then 96 else if i < 11 then 96 else if i < 12 then 12 else if i < 13 then 60 else if i < 14 then 60 else if i < 15 then 60 else if i < 16 then 60 else if i < 17 then 60 else 720
def rf_X (a : Nat → Nat) (k : Nat → ClassId) (σ : ST) : va_W := [
  (a 0, .inr (4, [.int (σ 18 0), .int (σ 18 1), .int (σ 18 2), .int (σ 18 3), .int (σ 18 4), .int (σ 18 5), .ref (a (0 + 1)), .ref (a (1 + 1)), .ref (a (2 + 1)), .ref (a (3 + 1)), .ref (a (4 + 1)), .ref (a (5 + 1)), .ref (a (6 + 1)), .ref (a (7 + 1)), .ref (a (8 + 1)), .ref (a (9 + 1)), .ref (a (10 + 1)), .ref (a (11 + 1)), .int (σ 18 6), .ref (a (12 + 1)), .ref (a (13 + 1)), .ref (a (14 + 1)), .ref (a (15 + 1)), .ref (a (16 + 1)), .ref (a (17 + 1))]))]
def rf_cells (a : Nat → Nat) (k : Nat → ClassId) (σ : ST) : va_W := rf_X a k σ ++ (List.range 18).map (fun i => (a (i + 1), .inl (k 0, rf_len i, .inl (σ i))))
def rf_P (D : va_G) (a : Nat → Nat) (k : Nat → ClassId) (σ : ST) (H : Heap) : Prop := va_P D ub_cl (rf_cells a k σ) H

/-- the addresses are apart -/
def rf_Ad (a : Nat → Nat) : Prop := ∀ i j : Nat, i < 19 → j < 19 → a i = a j → i = j
def rf_A (a : Nat → Nat) : Nat → Prop := fun q => ∃ i : Nat, i < 19 ∧ q = a i
abbrev rf_B (D : va_G) (a : Nat → Nat) (k : Nat → ClassId) (u : ST) (t : State) : Prop := rf_P D a k u t.heap ∧ ub_K D k t
abbrev rf_Pc (D : va_G) (a : Nat → Nat) (k : Nat → ClassId) (σ : ST) (av : List Value) : Array Value → State → Prop := va_Pc av (fun U => rf_P D a k σ U.heap ∧ ub_K D k U)
theorem rf_blind {D : va_G} {a : Nat → Nat} {k : Nat → ClassId} {σ : ST} {av : List Value} : FrameBlind (rf_Pc D a k σ av) := fun v U g mk q => by
  obtain ⟨q0, qP, qK⟩ := q
  exact ⟨q0, qP, va_K.moved (u := U) (U := U.calling g mk v) (Vm.Alike.refl U.vm) qK⟩
theorem rf_at {a : Nat → Nat} {k : Nat → ClassId} {σ : ST} {i : Nat} (hi : i < 18) : (rf_cells a k σ)[i + 1]? = some (a (i + 1), .inl (k 0, rf_len i, .inl (σ i))) := by
  unfold rf_cells
  rw [List.getElem?_append_right (show (rf_X a k σ).length ≤ i + 1 from Nat.le_add_left _ _)]
  rw [show i + 1 - (rf_X a k σ).length = i from Nat.add_sub_cancel i 1]
  rw [List.getElem?_map, List.getElem?_range hi]
  rfl
theorem rf_at0 {a : Nat → Nat} {k : Nat → ClassId} {σ : ST} {i : Nat} (hi : i < 1) : (rf_cells a k σ)[i]? = (rf_X a k σ)[i]? := by
  unfold rf_cells
  rw [List.getElem?_append_left (show i < (rf_X a k σ).length from hi)]
theorem rf_fst {a : Nat → Nat} {k : Nat → ClassId} {σ : ST} {i : Nat} {q : Nat × va_E} (h : (rf_cells a k σ)[i]? = some q) : i < 19 ∧ q.1 = a i := by
  by_cases h0 : i < 1
  · rw [rf_at0 h0] at h
    refine ⟨by omega, ?_⟩
    match i, h0, h with
    | 0, _, h => cases h; rfl
    | j + 1, h0, _ => exact absurd h0 (by omega)
  · obtain ⟨j, rfl⟩ : ∃ j, i = j + 1 := ⟨i - 1, by omega⟩
    by_cases h1 : j < 18
    · rw [rf_at h1] at h
      cases h
      exact ⟨by omega, rfl⟩
    · exfalso
      have h2 := (List.getElem?_eq_some_iff.mp h).1
      have h3 : (rf_cells a k σ).length = 1 + 18 := by
        unfold rf_cells
        rw [List.length_append, List.length_map, List.length_range]
        rfl
      omega
theorem rf_D {a : Nat → Nat} {k : Nat → ClassId} {σ : ST} (h : rf_Ad a) : va_D (rf_A a) (rf_cells a k σ) :=
  ⟨fun i j x y hi hj hxy => h i j (rf_fst hi).1 (rf_fst hj).1 (by rw [← (rf_fst hi).2, ← (rf_fst hj).2]; exact hxy), fun i x hi => ⟨i, (rf_fst hi).1, (rf_fst hi).2⟩⟩
theorem rf_setA {a : Nat → Nat} {k : Nat → ClassId} {σ : ST} {i j : Nat} {v : Int32} (hi : i < 18) : (rf_cells a k σ).set (i + 1) (a (i + 1), .inl (k 0, rf_len i, .inl (upd (σ i) j v))) = rf_cells a k (wr σ i j v) := by
  have e1 : wr σ i j v 18 = σ 18 := wr_ne (by omega)
  have e2 : wr σ i j v 18 = σ 18 := wr_ne (by omega)
  have hX : rf_X a k (wr σ i j v) = rf_X a k σ := by
    unfold rf_X
    rw [e1]
  apply List.ext_getElem?
  intro x
  by_cases hx : x = i + 1
  · subst hx
    rw [rf_at hi, wr_row, List.getElem?_set_self]
    exact (List.getElem?_eq_some_iff.mp (rf_at hi)).1
  · rw [List.getElem?_set_ne (Ne.symm hx)]
    by_cases h0 : x < 1
    · rw [rf_at0 h0, rf_at0 h0, hX]
    · obtain ⟨j', rfl⟩ : ∃ j', x = j' + 1 := ⟨x - 1, by omega⟩
      by_cases h1 : j' < 18
      · rw [rf_at h1, rf_at h1, wr_ne (by omega)]
      · have q : ∀ τ : ST, (rf_cells a k τ)[j' + 1]? = none := by
          intro τ
          cases hq : (rf_cells a k τ)[j' + 1]? with
          | none => rfl
          | some y => exact absurd (rf_fst hq).1 (by omega)
        rw [q, q]
/-- the same cells but for one of the first places -/
theorem rf_set0 {a : Nat → Nat} {k : Nat → ClassId} {σ τ : ST} {x : Nat} {y : Nat × va_E} (hx : x < 1) (h1 : ∀ i, i < 18 → τ i = σ i) (h2 : (rf_X a k σ).set x y = rf_X a k τ) : (rf_cells a k σ).set x y = rf_cells a k τ := by
  unfold rf_cells
  rw [List.set_append_left x y (show x < (rf_X a k σ).length from hx), h2]
  congr 1
  apply List.map_congr_left
  intro i hi
  rw [h1 i (List.mem_range.mp hi)]
section rfSEC
variable {p : Program} {l : Launch} {e : Env} {R : Room} {s : State} {m : MethodId} {args : Array Value} {below : List Frame} {meth : Method} {c : Code} {H : Heap} {locs : List Loc} {cells slots : Nat} {Q : State → Prop}
variable {cc : ByteArray} {pc : Nat} {ls : Array Slot} {rest : List Value} {D : va_G} {a : Nat → Nat} {k : Nat → ClassId} {σ : ST} {H0 : Heap}
theorem rf_iald {i n : Nat} {x : Int32} (hx : p.tables.exec = Jvm.exec) (hb : c.code = cc) (hK : ub_K D k s) (hP : rf_P D a k σ H) (hi : i < 18) (hn : rf_len i = n) (hin : ub_in x n) (hdg : decode cc pc = .ok (.iaload, 1))
    (kk : W p l e R s m args below meth c H locs cells slots Q (F0 m (pc + 1) ls (.int (σ i x.toNatClampNeg) :: rest))) : W p l e R s m args below meth c H locs cells slots Q (F0 m pc ls (.int x :: .ref (a (i + 1)) :: rest)) :=
  va_iald hx hb hK hP (i + 1) 0 (rf_at hi) rfl (hn ▸ hin) hdg kk
theorem rf_iast {i n : Nat} {x v : Int32} (hx : p.tables.exec = Jvm.exec) (hb : c.code = cc) (hK : ub_K D k s) (hP : rf_P D a k σ H) (hAd : rf_Ad a) (hS : va_S (rf_A a) H0 H locs) (hi : i < 18) (hn : rf_len i = n) (hin : ub_in x n) (hdg : decode cc pc = .ok (.iastore, 1))
    (kk : ∀ (H1 : Heap) (locs1 : List Loc), rf_P D a k (wr σ i x.toNatClampNeg v) H1 → va_S (rf_A a) H0 H1 locs1 → W p l e R s m args below meth c H1 locs1 cells slots Q (F0 m (pc + 1) ls rest)) : W p l e R s m args below meth c H locs cells slots Q (F0 m pc ls (.int v :: .int x :: .ref (a (i + 1)) :: rest)) :=
  va_iast hx hb hK hP (rf_D hAd) hS (i + 1) 0 (rf_at hi) rfl (hn ▸ hin) hdg (fun H1 locs1 hP1 _ hS1 => kk H1 locs1 (by rw [rf_setA hi] at hP1; exact hP1) hS1)
theorem rf_alen {i : Nat} (hx : p.tables.exec = Jvm.exec) (hb : c.code = cc) (hK : ub_K D k s) (hP : rf_P D a k σ H) (hi : i < 18) (hdg : decode cc pc = .ok (.arraylength, 1))
    (kk : W p l e R s m args below meth c H locs cells slots Q (F0 m (pc + 1) ls (.int (nI (rf_len i)) :: rest))) : W p l e R s m args below meth c H locs cells slots Q (F0 m pc ls (.ref (a (i + 1)) :: rest)) :=
  va_alen hx hb hK hP (i + 1) 0 (rf_at hi) rfl rfl hdg kk
theorem rf_rc0 (hK : ub_K D k s) (hP : rf_P D a k σ H) : ∃ cell : Cell, H[a 0]? = some cell ∧ cell.vm.isStatics = false ∧ s.vm.findClass rfR_Md = some cell.cls := va_recv hK hP (ci := 4) (q0 := 0) rfl rfl
variable {y : MethodName} {bytes : ByteArray} {maxL nL n index : Nat} {ret : Option FieldType} {ws : List Cond} {rm : Room} {own C : String} {b : Addr} {As st0 : List Value}
theorem rf_cv_ir {res : Int32} (S : CallFix p m c cc nL s args ub_T own) (hM : Met l y ws rm (rf_Pc D a k σ (.ref b :: As)) (va_Qi (fun (r : Int32) (u : ST) => r = res ∧ u = σ) (rf_B D a k) (rf_A a)) 0 0 (rf_A a)) (cw : CallW R s args own C index y bytes maxL ret ws rm 0 0 n) (hrc : ∃ cell : Cell, H[b]? = some cell ∧ cell.vm.isStatics = false ∧ s.vm.findClass C = some cell.cls) (hK : ub_K D k s) (hP : rf_P D a k σ H)
    (hn : As.length = n) (hsz : ls.size = nL) (hst : st0 = As.reverse ++ .ref b :: rest) (hW : (rest.map fun v => v.category).sum ≤ 8) (hdg : decode cc pc = .ok (.invokevirtual index, 3)) (hS : va_S (rf_A a) H0 H locs)
    (kk : ∀ (H1 : Heap) (locs1 : List Loc), rf_P D a k σ H1 → va_S (rf_A a) H0 H1 locs1 → W p l e R s m args below meth c H1 locs1 0 0 Q (F0 m (pc + 3) ls (.int res :: rest))) : W p l e R s m args below meth c H locs 0 0 Q (F0 m pc ls st0) :=
  va_calli (va_runV (As := As) (rest := rest) S hM cw ⟨rf_blind, hrc, fun U hU hW => ⟨rfl, by rw [hU]; exact hP, va_K.moved hW.alike hK⟩⟩ rfl hn hsz hst (lv_room hW) hdg ⟨Nat.zero_le _, Nat.zero_le _⟩) hS (fun q _ h => h) (fun q h => h) (fun r u t H1 locs1 ht _ hw hB _ _ hS => by
    obtain ⟨h1, h2⟩ := hw
    subst h1
    subst h2
    exact kk H1 locs1 (by rw [← ht]; exact hB.1) hS)
theorem rf_cv_iw {res : Int32 × ST} (S : CallFix p m c cc nL s args ub_T own) (hM : Met l y ws rm (rf_Pc D a k σ (.ref b :: As)) (va_Qi (fun (r : Int32) (u : ST) => r = res.1 ∧ u = res.2) (rf_B D a k) (rf_A a)) 0 0 (rf_A a)) (cw : CallW R s args own C index y bytes maxL ret ws rm 0 0 n) (hrc : ∃ cell : Cell, H[b]? = some cell ∧ cell.vm.isStatics = false ∧ s.vm.findClass C = some cell.cls) (hK : ub_K D k s) (hP : rf_P D a k σ H)
    (hn : As.length = n) (hsz : ls.size = nL) (hst : st0 = As.reverse ++ .ref b :: rest) (hW : (rest.map fun v => v.category).sum ≤ 8) (hdg : decode cc pc = .ok (.invokevirtual index, 3)) (hS : va_S (rf_A a) H0 H locs)
    (kk : ∀ (H1 : Heap) (locs1 : List Loc), rf_P D a k res.2 H1 → va_S (rf_A a) H0 H1 locs1 → W p l e R s m args below meth c H1 locs1 0 0 Q (F0 m (pc + 3) ls (.int res.1 :: rest))) : W p l e R s m args below meth c H locs 0 0 Q (F0 m pc ls st0) :=
  va_calli (va_runV (As := As) (rest := rest) S hM cw ⟨rf_blind, hrc, fun U hU hW => ⟨rfl, by rw [hU]; exact hP, va_K.moved hW.alike hK⟩⟩ rfl hn hsz hst (lv_room hW) hdg ⟨Nat.zero_le _, Nat.zero_le _⟩) hS (fun q _ h => h) (fun q h => h) (fun r u t H1 locs1 ht _ hw hB _ _ hS => by
    obtain ⟨h1, h2⟩ := hw
    rw [h1]
    exact kk H1 locs1 (by rw [← ht, ← h2]; exact hB.1) hS)
theorem rf_cv_v {res : ST} (S : CallFix p m c cc nL s args ub_T own) (hM : Met l y ws rm (rf_Pc D a k σ (.ref b :: As)) (va_Qv (fun (u : ST) => u = res) (rf_B D a k) (rf_A a)) 0 0 (rf_A a)) (cw : CallW R s args own C index y bytes maxL ret ws rm 0 0 n) (hrc : ∃ cell : Cell, H[b]? = some cell ∧ cell.vm.isStatics = false ∧ s.vm.findClass C = some cell.cls) (hK : ub_K D k s) (hP : rf_P D a k σ H)
    (hn : As.length = n) (hsz : ls.size = nL) (hst : st0 = As.reverse ++ .ref b :: rest) (hW : (rest.map fun v => v.category).sum ≤ 8) (hdg : decode cc pc = .ok (.invokevirtual index, 3)) (hS : va_S (rf_A a) H0 H locs)
    (kk : ∀ (H1 : Heap) (locs1 : List Loc), rf_P D a k res H1 → va_S (rf_A a) H0 H1 locs1 → W p l e R s m args below meth c H1 locs1 0 0 Q (F0 m (pc + 3) ls rest)) : W p l e R s m args below meth c H locs 0 0 Q (F0 m pc ls st0) :=
  va_callv (va_runV (As := As) (rest := rest) S hM cw ⟨rf_blind, hrc, fun U hU hW => ⟨rfl, by rw [hU]; exact hP, va_K.moved hW.alike hK⟩⟩ rfl hn hsz hst (lv_room hW) hdg ⟨Nat.zero_le _, Nat.zero_le _⟩) hS (fun q _ h => h) (fun q h => h) (fun u t H1 locs1 ht _ hw hB _ _ hS => kk H1 locs1 (by rw [← ht, ← hw]; exact hB.1) hS)
theorem rf_cs_ir {res : Int32} (S : CallFix p m c cc nL s args ub_T own) (hM : Met l y ws rm (rf_Pc D a k σ As) (va_Qi (fun (r : Int32) (u : ST) => r = res ∧ u = σ) (rf_B D a k) (rf_A a)) 0 0 (rf_A a)) (cw : CallB R s args own index y bytes maxL ret ws rm 0 0 n ∧ (Cond.static y).before args s = true) (hK : ub_K D k s) (hP : rf_P D a k σ H)
    (hn : As.length = n) (hsz : ls.size = nL) (hst : st0 = As.reverse ++ rest) (hW : (rest.map fun v => v.category).sum ≤ 8) (hdg : decode cc pc = .ok (.invokestatic index, 3)) (hS : va_S (rf_A a) H0 H locs)
    (kk : ∀ (H1 : Heap) (locs1 : List Loc), rf_P D a k σ H1 → va_S (rf_A a) H0 H1 locs1 → W p l e R s m args below meth c H1 locs1 0 0 Q (F0 m (pc + 3) ls (.int res :: rest))) : W p l e R s m args below meth c H locs 0 0 Q (F0 m pc ls st0) :=
  va_calli (va_runS (As := As) (rest := rest) S hM cw ⟨rf_blind, fun U hU hW => ⟨rfl, by rw [hU]; exact hP, va_K.moved hW.alike hK⟩⟩ rfl hn hsz hst (lv_room hW) hdg ⟨Nat.zero_le _, Nat.zero_le _⟩) hS (fun q _ h => h) (fun q h => h) (fun r u t H1 locs1 ht _ hw hB _ _ hS => by
    obtain ⟨h1, h2⟩ := hw
    subst h1
    subst h2
    exact kk H1 locs1 (by rw [← ht]; exact hB.1) hS)
end rfSEC
end
section
theorem urw_Rb_9 : Cond.methodLink "UpdateRobot" 9 Lib.Math.min.name ∈ ub_T := ubw_43
theorem urw_Rb_15 : Cond.methodLink "UpdateRobot" 15 Lib.Math.max.name ∈ ub_T := ubw_46
theorem urc_Rb_24 {R : Room} {s : State} {args : Array Value} (hts : ∀ w ∈ ub_T, w.before args s = true) (hR : urr_Nm_init.frames + 1 ≤ R.frames ∧ 8 + (1 + 11) + urr_Nm_init.locals ≤ R.locals) : CallB R s args "UpdateRobot" 24 ury_Nm_init urb_Nm_init 1 none urs_Nm_init urr_Nm_init urr_Nm_init.cells urr_Nm_init.slots 0 ∧ (ury_Nm_init).name = "<init>" ∧ (Cond.instanceMethod ury_Nm_init).before args s = true :=
  cwI 0 hts (ub_good urm_Nm_init) rfl rfl rfl (hts _ ubw_31) (hts _ ubw_51) (hts _ ubw_52) rfl (by decide +kernel) hR
theorem urc_Rb_31 {R : Room} {s : State} {args : Array Value} (hts : ∀ w ∈ ub_T, w.before args s = true) (hR : urr_So_init.frames + 1 ≤ R.frames ∧ 8 + (1 + 11) + urr_So_init.locals ≤ R.locals) : CallB R s args "UpdateRobot" 31 ury_So_init urb_So_init 1 none urs_So_init urr_So_init urr_So_init.cells urr_So_init.slots 0 ∧ (ury_So_init).name = "<init>" ∧ (Cond.instanceMethod ury_So_init).before args s = true :=
  cwI 0 hts (ub_good urm_So_init) rfl rfl rfl (hts _ ubw_32) (hts _ ubw_111) (hts _ ubw_112) rfl (by decide +kernel) hR
theorem urc_Rb_38 {R : Room} {s : State} {args : Array Value} (hts : ∀ w ∈ ub_T, w.before args s = true) (hR : urr_Pr_init.frames + 1 ≤ R.frames ∧ 8 + (1 + 11) + urr_Pr_init.locals ≤ R.locals) : CallB R s args "UpdateRobot" 38 ury_Pr_init urb_Pr_init 1 none urs_Pr_init urr_Pr_init urr_Pr_init.cells urr_Pr_init.slots 0 ∧ (ury_Pr_init).name = "<init>" ∧ (Cond.instanceMethod ury_Pr_init).before args s = true :=
  cwI 0 hts (ub_good urm_Pr_init) rfl rfl rfl (hts _ ubw_33) (hts _ ubw_125) (hts _ ubw_126) rfl (by decide +kernel) hR
theorem urc_Rb_49 {R : Room} {s : State} {args : Array Value} (hts : ∀ w ∈ ub_T, w.before args s = true) (hR : urr_Rb_isRepository.frames + 1 ≤ R.frames ∧ 8 + (1 + 11) + urr_Rb_isRepository.locals ≤ R.locals) : CallB R s args "UpdateRobot" 49 ury_Rb_isRepository urb_Rb_isRepository 1 (some .boolean) urs_Rb_isRepository urr_Rb_isRepository 0 0 1 ∧ (Cond.static ury_Rb_isRepository).before args s = true :=
  cwS 1 hts (ub_goodS ubw_183 ubw_184 ubw_29 urm_Rb_isRepository) rfl rfl rfl (by decide +kernel) hR
theorem urc_Rb_53 {R : Room} {s : State} {args : Array Value} (hts : ∀ w ∈ ub_T, w.before args s = true) (hR : urr_Nm_add.frames + 1 ≤ R.frames ∧ 8 + (3 + 11) + urr_Nm_add.locals ≤ R.locals) : CallW R s args "UpdateRobot" "UpdateRobot$Names" 53 ury_Nm_add urb_Nm_add 3 (some .int) urs_Nm_add urr_Nm_add 0 0 1 :=
  cwV 1 hts (ub_goodV ubw_186 ubw_187 ubw_188 ubw_31 urm_Nm_add) rfl rfl rfl (by decide +kernel) hR
theorem urc_Rb_57 {R : Room} {s : State} {args : Array Value} (hts : ∀ w ∈ ub_T, w.before args s = true) (hR : urr_Nm_isKnown.frames + 1 ≤ R.frames ∧ 8 + (2 + 11) + urr_Nm_isKnown.locals ≤ R.locals) : CallW R s args "UpdateRobot" "UpdateRobot$Names" 57 ury_Nm_isKnown urb_Nm_isKnown 2 (some .boolean) urs_Nm_isKnown urr_Nm_isKnown 0 0 1 :=
  cwV 1 hts (ub_goodV ubw_194 ubw_195 ubw_196 ubw_31 urm_Nm_isKnown) rfl rfl rfl (by decide +kernel) hR
theorem urc_Rb_60 {R : Room} {s : State} {args : Array Value} (hts : ∀ w ∈ ub_T, w.before args s = true) (hR : urr_Nm_addVersion.frames + 1 ≤ R.frames ∧ 8 + (4 + 11) + urr_Nm_addVersion.locals ≤ R.locals) : CallW R s args "UpdateRobot" "UpdateRobot$Names" 60 ury_Nm_addVersion urb_Nm_addVersion 4 (some .int) urs_Nm_addVersion urr_Nm_addVersion 0 0 2 :=
  cwV 2 hts (ub_goodV ubw_198 ubw_199 ubw_200 ubw_31 urm_Nm_addVersion) rfl rfl rfl (by decide +kernel) hR
theorem urc_Rb_63 {R : Room} {s : State} {args : Array Value} (hts : ∀ w ∈ ub_T, w.before args s = true) (hR : urr_Nm_hasVersion.frames + 1 ≤ R.frames ∧ 8 + (3 + 11) + urr_Nm_hasVersion.locals ≤ R.locals) : CallW R s args "UpdateRobot" "UpdateRobot$Names" 63 ury_Nm_hasVersion urb_Nm_hasVersion 3 (some .boolean) urs_Nm_hasVersion urr_Nm_hasVersion 0 0 2 :=
  cwV 2 hts (ub_goodV ubw_206 ubw_207 ubw_208 ubw_31 urm_Nm_hasVersion) rfl rfl rfl (by decide +kernel) hR
theorem urc_Rb_90 {R : Room} {s : State} {args : Array Value} (hts : ∀ w ∈ ub_T, w.before args s = true) (hR : urr_Nm_goalOf.frames + 1 ≤ R.frames ∧ 8 + (4 + 11) + urr_Nm_goalOf.locals ≤ R.locals) : CallW R s args "UpdateRobot" "UpdateRobot$Names" 90 ury_Nm_goalOf urb_Nm_goalOf 4 (some .int) urs_Nm_goalOf urr_Nm_goalOf 0 0 1 :=
  cwV 1 hts (ub_goodV ubw_227 ubw_228 ubw_229 ubw_31 urm_Nm_goalOf) rfl rfl rfl (by decide +kernel) hR
theorem urc_Rb_93 {R : Room} {s : State} {args : Array Value} (hts : ∀ w ∈ ub_T, w.before args s = true) (hR : urr_Nm_chiefOf.frames + 1 ≤ R.frames ∧ 8 + (3 + 11) + urr_Nm_chiefOf.locals ≤ R.locals) : CallW R s args "UpdateRobot" "UpdateRobot$Names" 93 ury_Nm_chiefOf urb_Nm_chiefOf 3 (some .int) urs_Nm_chiefOf urr_Nm_chiefOf 0 0 1 :=
  cwV 1 hts (ub_goodV ubw_243 ubw_244 ubw_245 ubw_31 urm_Nm_chiefOf) rfl rfl rfl (by decide +kernel) hR
theorem urc_Rb_96 {R : Room} {s : State} {args : Array Value} (hts : ∀ w ∈ ub_T, w.before args s = true) (hR : urr_Nm_isChief.frames + 1 ≤ R.frames ∧ 8 + (2 + 11) + urr_Nm_isChief.locals ≤ R.locals) : CallW R s args "UpdateRobot" "UpdateRobot$Names" 96 ury_Nm_isChief urb_Nm_isChief 2 (some .boolean) urs_Nm_isChief urr_Nm_isChief 0 0 1 :=
  cwV 1 hts (ub_goodV ubw_251 ubw_252 ubw_253 ubw_31 urm_Nm_isChief) rfl rfl rfl (by decide +kernel) hR
theorem urc_Rb_99 {R : Room} {s : State} {args : Array Value} (hts : ∀ w ∈ ub_T, w.before args s = true) (hR : urr_So_solveUnit.frames + 1 ≤ R.frames ∧ 8 + (7 + 11) + urr_So_solveUnit.locals ≤ R.locals) : CallW R s args "UpdateRobot" "UpdateRobot$Solver" 99 ury_So_solveUnit urb_So_solveUnit 7 (some .int) urs_So_solveUnit urr_So_solveUnit 0 0 2 :=
  cwV 2 hts (ub_goodV ubw_256 ubw_257 ubw_258 ubw_32 urm_So_solveUnit) rfl rfl rfl (by decide +kernel) hR
theorem urc_Rb_109 {R : Room} {s : State} {args : Array Value} (hts : ∀ w ∈ ub_T, w.before args s = true) (hR : urr_Rb_isDue.frames + 1 ≤ R.frames ∧ 8 + (3 + 11) + urr_Rb_isDue.locals ≤ R.locals) : CallW R s args "UpdateRobot" "UpdateRobot" 109 ury_Rb_isDue urb_Rb_isDue 3 (some .boolean) urs_Rb_isDue urr_Rb_isDue 0 0 1 :=
  cwV 1 hts (ub_goodV ubw_291 ubw_293 (List.mem_filter.mpr ⟨List.mem_append_left _ (List.mem_map.mpr ⟨(ury_Rb_isDue, 6), List.mem_of_getElem? (i := 4) rfl, rfl⟩), rfl⟩) ubw_29 urm_Rb_isDue) rfl rfl rfl (by decide +kernel) hR
theorem urc_Rb_115 {R : Room} {s : State} {args : Array Value} (hts : ∀ w ∈ ub_T, w.before args s = true) (hR : urr_Rb_review.frames + 1 ≤ R.frames ∧ 8 + (3 + 11) + urr_Rb_review.locals ≤ R.locals) : CallW R s args "UpdateRobot" "UpdateRobot" 115 ury_Rb_review urb_Rb_review 3 none urs_Rb_review urr_Rb_review 0 0 1 :=
  cwV 1 hts (ub_goodV ubw_304 ubw_306 (List.mem_filter.mpr ⟨List.mem_append_left _ (List.mem_map.mpr ⟨(ury_Rb_review, 6), List.mem_of_getElem? (i := 5) rfl, rfl⟩), rfl⟩) ubw_29 urm_Rb_review) rfl rfl rfl (by decide +kernel) hR
theorem urc_Rb_119 {R : Room} {s : State} {args : Array Value} (hts : ∀ w ∈ ub_T, w.before args s = true) (hR : urr_Pr_isKnown.frames + 1 ≤ R.frames ∧ 8 + (2 + 11) + urr_Pr_isKnown.locals ≤ R.locals) : CallW R s args "UpdateRobot" "UpdateRobot$Proposals" 119 ury_Pr_isKnown urb_Pr_isKnown 2 (some .boolean) urs_Pr_isKnown urr_Pr_isKnown 0 0 1 :=
  cwV 1 hts (ub_goodV ubw_365 ubw_321 ubw_322 ubw_33 urm_Pr_isKnown) rfl rfl rfl (by decide +kernel) hR
theorem urc_Rb_139 {R : Room} {s : State} {args : Array Value} (hts : ∀ w ∈ ub_T, w.before args s = true) (hR : urr_Pr_isOpen.frames + 1 ≤ R.frames ∧ 8 + (2 + 11) + urr_Pr_isOpen.locals ≤ R.locals) : CallW R s args "UpdateRobot" "UpdateRobot$Proposals" 139 ury_Pr_isOpen urb_Pr_isOpen 2 (some .boolean) urs_Pr_isOpen urr_Pr_isOpen 0 0 1 :=
  cwV 1 hts (ub_goodV ubw_344 ubw_345 ubw_346 ubw_33 urm_Pr_isOpen) rfl rfl rfl (by decide +kernel) hR
theorem urc_Rb_142 {R : Room} {s : State} {args : Array Value} (hts : ∀ w ∈ ub_T, w.before args s = true) (hR : urr_Nm_moveUp.frames + 1 ≤ R.frames ∧ 8 + (4 + 11) + urr_Nm_moveUp.locals ≤ R.locals) : CallW R s args "UpdateRobot" "UpdateRobot$Names" 142 ury_Nm_moveUp urb_Nm_moveUp 4 (some .int) urs_Nm_moveUp urr_Nm_moveUp 0 0 1 :=
  cwV 1 hts (ub_goodV ubw_374 ubw_375 ubw_376 ubw_31 urm_Nm_moveUp) rfl rfl rfl (by decide +kernel) hR
theorem urc_Rb_146 {R : Room} {s : State} {args : Array Value} (hts : ∀ w ∈ ub_T, w.before args s = true) (hR : urr_Rb_redoAllTouchedBy.frames + 1 ≤ R.frames ∧ 8 + (3 + 11) + urr_Rb_redoAllTouchedBy.locals ≤ R.locals) : CallW R s args "UpdateRobot" "UpdateRobot" 146 ury_Rb_redoAllTouchedBy urb_Rb_redoAllTouchedBy 3 none urs_Rb_redoAllTouchedBy urr_Rb_redoAllTouchedBy 0 0 1 :=
  cwV 1 hts (ub_goodV ubw_378 ubw_380 (List.mem_filter.mpr ⟨List.mem_append_left _ (List.mem_map.mpr ⟨(ury_Rb_redoAllTouchedBy, 6), List.mem_of_getElem? (i := 9) rfl, rfl⟩), rfl⟩) ubw_29 urm_Rb_redoAllTouchedBy) rfl rfl rfl (by decide +kernel) hR
theorem urc_Rb_149 {R : Room} {s : State} {args : Array Value} (hts : ∀ w ∈ ub_T, w.before args s = true) (hR : urr_Rb_openIn.frames + 1 ≤ R.frames ∧ 8 + (4 + 11) + urr_Rb_openIn.locals ≤ R.locals) : CallW R s args "UpdateRobot" "UpdateRobot" 149 ury_Rb_openIn urb_Rb_openIn 4 (some .int) urs_Rb_openIn urr_Rb_openIn 0 0 1 :=
  cwV 1 hts (ub_goodV ubw_340 ubw_342 (List.mem_filter.mpr ⟨List.mem_append_left _ (List.mem_map.mpr ⟨(ury_Rb_openIn, 6), List.mem_of_getElem? (i := 8) rfl, rfl⟩), rfl⟩) ubw_29 urm_Rb_openIn) rfl rfl rfl (by decide +kernel) hR
theorem urc_Rb_152 {R : Room} {s : State} {args : Array Value} (hts : ∀ w ∈ ub_T, w.before args s = true) (hR : urr_Nm_isUnitHit.frames + 1 ≤ R.frames ∧ 8 + (3 + 11) + urr_Nm_isUnitHit.locals ≤ R.locals) : CallW R s args "UpdateRobot" "UpdateRobot$Names" 152 ury_Nm_isUnitHit urb_Nm_isUnitHit 3 (some .boolean) urs_Nm_isUnitHit urr_Nm_isUnitHit 0 0 1 :=
  cwV 1 hts (ub_goodV ubw_295 ubw_296 ubw_297 ubw_31 urm_Nm_isUnitHit) rfl rfl rfl (by decide +kernel) hR
theorem urc_Rb_155 {R : Room} {s : State} {args : Array Value} (hts : ∀ w ∈ ub_T, w.before args s = true) (hR : urr_Nm_leastEvery.frames + 1 ≤ R.frames ∧ 8 + (4 + 11) + urr_Nm_leastEvery.locals ≤ R.locals) : CallW R s args "UpdateRobot" "UpdateRobot$Names" 155 ury_Nm_leastEvery urb_Nm_leastEvery 4 (some .int) urs_Nm_leastEvery urr_Nm_leastEvery 0 0 1 :=
  cwV 1 hts (ub_goodV ubw_299 ubw_300 ubw_301 ubw_31 urm_Nm_leastEvery) rfl rfl rfl (by decide +kernel) hR
theorem urc_Rb_158 {R : Room} {s : State} {args : Array Value} (hts : ∀ w ∈ ub_T, w.before args s = true) (hR : urr_Pr_openOf.frames + 1 ≤ R.frames ∧ 8 + (2 + 11) + urr_Pr_openOf.locals ≤ R.locals) : CallW R s args "UpdateRobot" "UpdateRobot$Proposals" 158 ury_Pr_openOf urb_Pr_openOf 2 (some .int) urs_Pr_openOf urr_Pr_openOf 0 0 1 :=
  cwV 1 hts (ub_goodV ubw_308 ubw_309 ubw_310 ubw_33 urm_Pr_openOf) rfl rfl rfl (by decide +kernel) hR
theorem urc_Rb_161 {R : Room} {s : State} {args : Array Value} (hts : ∀ w ∈ ub_T, w.before args s = true) (hR : urr_Pr_closeIfAny.frames + 1 ≤ R.frames ∧ 8 + (3 + 11) + urr_Pr_closeIfAny.locals ≤ R.locals) : CallW R s args "UpdateRobot" "UpdateRobot$Proposals" 161 ury_Pr_closeIfAny urb_Pr_closeIfAny 3 none urs_Pr_closeIfAny urr_Pr_closeIfAny 0 0 2 :=
  cwV 2 hts (ub_goodV ubw_316 ubw_317 ubw_318 ubw_33 urm_Pr_closeIfAny) rfl rfl rfl (by decide +kernel) hR
theorem urc_Rb_167 {R : Room} {s : State} {args : Array Value} (hts : ∀ w ∈ ub_T, w.before args s = true) (hR : urr_Pr_raisesJust.frames + 1 ≤ R.frames ∧ 8 + (4 + 11) + urr_Pr_raisesJust.locals ≤ R.locals) : CallW R s args "UpdateRobot" "UpdateRobot$Proposals" 167 ury_Pr_raisesJust urb_Pr_raisesJust 4 (some .boolean) urs_Pr_raisesJust urr_Pr_raisesJust 0 0 2 :=
  cwV 2 hts (ub_goodV ubw_324 ubw_325 ubw_326 ubw_33 urm_Pr_raisesJust) rfl rfl rfl (by decide +kernel) hR
theorem urc_Rb_171 {R : Room} {s : State} {args : Array Value} (hts : ∀ w ∈ ub_T, w.before args s = true) (hR : urr_Pr_latestFailedOf.frames + 1 ≤ R.frames ∧ 8 + (2 + 11) + urr_Pr_latestFailedOf.locals ≤ R.locals) : CallW R s args "UpdateRobot" "UpdateRobot$Proposals" 171 ury_Pr_latestFailedOf urb_Pr_latestFailedOf 2 (some .int) urs_Pr_latestFailedOf urr_Pr_latestFailedOf 0 0 1 :=
  cwV 1 hts (ub_goodV ubw_328 ubw_329 ubw_330 ubw_33 urm_Pr_latestFailedOf) rfl rfl rfl (by decide +kernel) hR
theorem urc_Rb_174 {R : Room} {s : State} {args : Array Value} (hts : ∀ w ∈ ub_T, w.before args s = true) (hR : urr_Rb_mayOpen.frames + 1 ≤ R.frames ∧ 8 + (3 + 11) + urr_Rb_mayOpen.locals ≤ R.locals) : CallW R s args "UpdateRobot" "UpdateRobot" 174 ury_Rb_mayOpen urb_Rb_mayOpen 3 (some .boolean) urs_Rb_mayOpen urr_Rb_mayOpen 0 0 2 :=
  cwV 2 hts (ub_goodV ubw_332 ubw_334 (List.mem_filter.mpr ⟨List.mem_append_left _ (List.mem_map.mpr ⟨(ury_Rb_mayOpen, 6), List.mem_of_getElem? (i := 7) rfl, rfl⟩), rfl⟩) ubw_29 urm_Rb_mayOpen) rfl rfl rfl (by decide +kernel) hR
theorem urc_Rb_177 {R : Room} {s : State} {args : Array Value} (hts : ∀ w ∈ ub_T, w.before args s = true) (hR : urr_Pr_add.frames + 1 ≤ R.frames ∧ 8 + (6 + 11) + urr_Pr_add.locals ≤ R.locals) : CallW R s args "UpdateRobot" "UpdateRobot$Proposals" 177 ury_Pr_add urb_Pr_add 6 none urs_Pr_add urr_Pr_add 0 0 4 :=
  cwV 4 hts (ub_goodV ubw_348 ubw_349 ubw_350 ubw_33 urm_Pr_add) rfl rfl rfl (by decide +kernel) hR
theorem urc_Rb_180 {R : Room} {s : State} {args : Array Value} (hts : ∀ w ∈ ub_T, w.before args s = true) (hR : urr_Pr_isFull.frames + 1 ≤ R.frames ∧ 8 + (1 + 11) + urr_Pr_isFull.locals ≤ R.locals) : CallW R s args "UpdateRobot" "UpdateRobot$Proposals" 180 ury_Pr_isFull urb_Pr_isFull 1 (some .boolean) urs_Pr_isFull urr_Pr_isFull 0 0 0 :=
  cwV 0 hts (ub_goodV ubw_336 ubw_337 ubw_338 ubw_33 urm_Pr_isFull) rfl rfl rfl (by decide +kernel) hR
theorem urc_Rb_187 {R : Room} {s : State} {args : Array Value} (hts : ∀ w ∈ ub_T, w.before args s = true) (hR : urr_Pr_overlap.frames + 1 ≤ R.frames ∧ 8 + (4 + 11) + urr_Pr_overlap.locals ≤ R.locals) : CallW R s args "UpdateRobot" "UpdateRobot$Proposals" 187 ury_Pr_overlap urb_Pr_overlap 4 (some .boolean) urs_Pr_overlap urr_Pr_overlap 0 0 2 :=
  cwV 2 hts (ub_goodV ubw_382 ubw_383 ubw_384 ubw_33 urm_Pr_overlap) rfl rfl rfl (by decide +kernel) hR
theorem urc_Rb_190 {R : Room} {s : State} {args : Array Value} (hts : ∀ w ∈ ub_T, w.before args s = true) (hR : urr_Rb_redo.frames + 1 ≤ R.frames ∧ 8 + (3 + 11) + urr_Rb_redo.locals ≤ R.locals) : CallW R s args "UpdateRobot" "UpdateRobot" 190 ury_Rb_redo urb_Rb_redo 3 none urs_Rb_redo urr_Rb_redo 0 0 1 :=
  cwV 1 hts (ub_goodV ubw_386 ubw_388 (List.mem_filter.mpr ⟨List.mem_append_left _ (List.mem_map.mpr ⟨(ury_Rb_redo, 6), List.mem_of_getElem? (i := 10) rfl, rfl⟩), rfl⟩) ubw_29 urm_Rb_redo) rfl rfl rfl (by decide +kernel) hR
theorem urc_Rb_193 {R : Room} {s : State} {args : Array Value} (hts : ∀ w ∈ ub_T, w.before args s = true) (hR : urr_Pr_setRaised.frames + 1 ≤ R.frames ∧ 8 + (4 + 11) + urr_Pr_setRaised.locals ≤ R.locals) : CallW R s args "UpdateRobot" "UpdateRobot$Proposals" 193 ury_Pr_setRaised urb_Pr_setRaised 4 none urs_Pr_setRaised urr_Pr_setRaised 0 0 2 :=
  cwV 2 hts (ub_goodV ubw_390 ubw_354 ubw_355 ubw_33 urm_Pr_setRaised) rfl rfl rfl (by decide +kernel) hR
theorem urc_Nm_51 {R : Room} {s : State} {args : Array Value} (hts : ∀ w ∈ ub_T, w.before args s = true) (hR : urr_Nm_isKnown.frames + 1 ≤ R.frames ∧ 8 + (2 + 11) + urr_Nm_isKnown.locals ≤ R.locals) : CallW R s args "UpdateRobot$Names" "UpdateRobot$Names" 51 ury_Nm_isKnown urb_Nm_isKnown 2 (some .boolean) urs_Nm_isKnown urr_Nm_isKnown 0 0 1 :=
  cwV 1 hts (ub_goodV ubw_210 ubw_195 ubw_196 ubw_31 urm_Nm_isKnown) rfl rfl rfl (by decide +kernel) hR
theorem urc_Nm_55 {R : Room} {s : State} {args : Array Value} (hts : ∀ w ∈ ub_T, w.before args s = true) (hR : urr_Nm_farthestAllowed.frames + 1 ≤ R.frames ∧ 8 + (4 + 11) + urr_Nm_farthestAllowed.locals ≤ R.locals) : CallW R s args "UpdateRobot$Names" "UpdateRobot$Names" 55 ury_Nm_farthestAllowed urb_Nm_farthestAllowed 4 (some .int) urs_Nm_farthestAllowed urr_Nm_farthestAllowed 0 0 1 :=
  cwV 1 hts (ub_goodV ubw_231 ubw_232 ubw_233 ubw_31 urm_Nm_farthestAllowed) rfl rfl rfl (by decide +kernel) hR
theorem urc_Nm_59 {R : Room} {s : State} {args : Array Value} (hts : ∀ w ∈ ub_T, w.before args s = true) (hR : urr_Nm_isHit.frames + 1 ≤ R.frames ∧ 8 + (2 + 11) + urr_Nm_isHit.locals ≤ R.locals) : CallW R s args "UpdateRobot$Names" "UpdateRobot$Names" 59 ury_Nm_isHit urb_Nm_isHit 2 (some .boolean) urs_Nm_isHit urr_Nm_isHit 0 0 1 :=
  cwV 1 hts (ub_goodV ubw_235 ubw_236 ubw_237 ubw_31 urm_Nm_isHit) rfl rfl rfl (by decide +kernel) hR
theorem urc_Nm_62 {R : Room} {s : State} {args : Array Value} (hts : ∀ w ∈ ub_T, w.before args s = true) (hR : urr_Nm_chiefOf.frames + 1 ≤ R.frames ∧ 8 + (3 + 11) + urr_Nm_chiefOf.locals ≤ R.locals) : CallW R s args "UpdateRobot$Names" "UpdateRobot$Names" 62 ury_Nm_chiefOf urb_Nm_chiefOf 3 (some .int) urs_Nm_chiefOf urr_Nm_chiefOf 0 0 1 :=
  cwV 1 hts (ub_goodV ubw_255 ubw_244 ubw_245 ubw_31 urm_Nm_chiefOf) rfl rfl rfl (by decide +kernel) hR
theorem urw_Nm_65 : Cond.methodLink "UpdateRobot$Names" 65 Lib.Math.min.name ∈ ub_T := ubw_303
theorem urc_Pr_37 {R : Room} {s : State} {args : Array Value} (hts : ∀ w ∈ ub_T, w.before args s = true) (hR : urr_Pr_isKnown.frames + 1 ≤ R.frames ∧ 8 + (2 + 11) + urr_Pr_isKnown.locals ≤ R.locals) : CallW R s args "UpdateRobot$Proposals" "UpdateRobot$Proposals" 37 ury_Pr_isKnown urb_Pr_isKnown 2 (some .boolean) urs_Pr_isKnown urr_Pr_isKnown 0 0 1 :=
  cwV 1 hts (ub_goodV ubw_320 ubw_321 ubw_322 ubw_33 urm_Pr_isKnown) rfl rfl rfl (by decide +kernel) hR
theorem urc_Pr_41 {R : Room} {s : State} {args : Array Value} (hts : ∀ w ∈ ub_T, w.before args s = true) (hR : urr_Pr_isFull.frames + 1 ≤ R.frames ∧ 8 + (1 + 11) + urr_Pr_isFull.locals ≤ R.locals) : CallW R s args "UpdateRobot$Proposals" "UpdateRobot$Proposals" 41 ury_Pr_isFull urb_Pr_isFull 1 (some .boolean) urs_Pr_isFull urr_Pr_isFull 0 0 0 :=
  cwV 0 hts (ub_goodV ubw_352 ubw_337 ubw_338 ubw_33 urm_Pr_isFull) rfl rfl rfl (by decide +kernel) hR
theorem urc_Pr_45 {R : Room} {s : State} {args : Array Value} (hts : ∀ w ∈ ub_T, w.before args s = true) (hR : urr_Pr_setRaised.frames + 1 ≤ R.frames ∧ 8 + (4 + 11) + urr_Pr_setRaised.locals ≤ R.locals) : CallW R s args "UpdateRobot$Proposals" "UpdateRobot$Proposals" 45 ury_Pr_setRaised urb_Pr_setRaised 4 none urs_Pr_setRaised urr_Pr_setRaised 0 0 2 :=
  cwV 2 hts (ub_goodV ubw_353 ubw_354 ubw_355 ubw_33 urm_Pr_setRaised) rfl rfl rfl (by decide +kernel) hR
theorem urc_Pr_49 {R : Room} {s : State} {args : Array Value} (hts : ∀ w ∈ ub_T, w.before args s = true) (hR : urr_Pr_latestOf.frames + 1 ≤ R.frames ∧ 8 + (4 + 11) + urr_Pr_latestOf.locals ≤ R.locals) : CallW R s args "UpdateRobot$Proposals" "UpdateRobot$Proposals" 49 ury_Pr_latestOf urb_Pr_latestOf 4 (some .int) urs_Pr_latestOf urr_Pr_latestOf 0 0 2 :=
  cwV 2 hts (ub_goodV ubw_312 ubw_314 (List.mem_filter.mpr ⟨List.mem_append_left _ (List.mem_map.mpr ⟨(ury_Pr_latestOf, 7), List.mem_of_getElem? (i := 6) rfl, rfl⟩), rfl⟩) ubw_33 urm_Pr_latestOf) rfl rfl rfl (by decide +kernel) hR
theorem urc_So_18 {R : Room} {s : State} {args : Array Value} (hts : ∀ w ∈ ub_T, w.before args s = true) (hR : urr_So_setOut.frames + 1 ≤ R.frames ∧ 8 + (4 + 11) + urr_So_setOut.locals ≤ R.locals) : CallW R s args "UpdateRobot$Solver" "UpdateRobot$Solver" 18 ury_So_setOut urb_So_setOut 4 none urs_So_setOut urr_So_setOut 0 0 2 :=
  cwV 2 hts (ub_goodV ubw_260 ubw_262 (List.mem_filter.mpr ⟨List.mem_append_left _ (List.mem_map.mpr ⟨(ury_So_setOut, 2), List.mem_of_getElem? (i := 0) rfl, rfl⟩), rfl⟩) ubw_32 urm_So_setOut) rfl rfl rfl (by decide +kernel) hR
theorem urc_So_22 {R : Room} {s : State} {args : Array Value} (hts : ∀ w ∈ ub_T, w.before args s = true) (hR : urr_So_firstNeedy.frames + 1 ≤ R.frames ∧ 8 + (3 + 11) + urr_So_firstNeedy.locals ≤ R.locals) : CallW R s args "UpdateRobot$Solver" "UpdateRobot$Solver" 22 ury_So_firstNeedy urb_So_firstNeedy 3 (some .int) urs_So_firstNeedy urr_So_firstNeedy 0 0 1 :=
  cwV 1 hts (ub_goodV ubw_266 ubw_268 (List.mem_filter.mpr ⟨List.mem_append_left _ (List.mem_map.mpr ⟨(ury_So_firstNeedy, 2), List.mem_of_getElem? (i := 1) rfl, rfl⟩), rfl⟩) ubw_32 urm_So_firstNeedy) rfl rfl rfl (by decide +kernel) hR
theorem urc_So_35 {R : Room} {s : State} {args : Array Value} (hts : ∀ w ∈ ub_T, w.before args s = true) (hR : urr_Nm_farthestAllowed.frames + 1 ≤ R.frames ∧ 8 + (4 + 11) + urr_Nm_farthestAllowed.locals ≤ R.locals) : CallW R s args "UpdateRobot$Solver" "UpdateRobot$Names" 35 ury_Nm_farthestAllowed urb_Nm_farthestAllowed 4 (some .int) urs_Nm_farthestAllowed urr_Nm_farthestAllowed 0 0 1 :=
  cwV 1 hts (ub_goodV ubw_276 ubw_232 ubw_233 ubw_31 urm_Nm_farthestAllowed) rfl rfl rfl (by decide +kernel) hR
theorem urc_So_39 {R : Room} {s : State} {args : Array Value} (hts : ∀ w ∈ ub_T, w.before args s = true) (hR : urr_So_keepRaised.frames + 1 ≤ R.frames ∧ 8 + (4 + 11) + urr_So_keepRaised.locals ≤ R.locals) : CallW R s args "UpdateRobot$Solver" "UpdateRobot$Solver" 39 ury_So_keepRaised urb_So_keepRaised 4 (some .int) urs_So_keepRaised urr_So_keepRaised 0 0 1 :=
  cwV 1 hts (ub_goodV ubw_277 ubw_279 (List.mem_filter.mpr ⟨List.mem_append_left _ (List.mem_map.mpr ⟨(ury_So_keepRaised, 2), List.mem_of_getElem? (i := 3) rfl, rfl⟩), rfl⟩) ubw_32 urm_So_keepRaised) rfl rfl rfl (by decide +kernel) hR
theorem urc_So_46 {R : Room} {s : State} {args : Array Value} (hts : ∀ w ∈ ub_T, w.before args s = true) (hR : urr_Nm_chiefOf.frames + 1 ≤ R.frames ∧ 8 + (3 + 11) + urr_Nm_chiefOf.locals ≤ R.locals) : CallW R s args "UpdateRobot$Solver" "UpdateRobot$Names" 46 ury_Nm_chiefOf urb_Nm_chiefOf 3 (some .int) urs_Nm_chiefOf urr_Nm_chiefOf 0 0 1 :=
  cwV 1 hts (ub_goodV ubw_264 ubw_244 ubw_245 ubw_31 urm_Nm_chiefOf) rfl rfl rfl (by decide +kernel) hR
theorem urc_So_49 {R : Room} {s : State} {args : Array Value} (hts : ∀ w ∈ ub_T, w.before args s = true) (hR : urr_Nm_goalOf.frames + 1 ≤ R.frames ∧ 8 + (4 + 11) + urr_Nm_goalOf.locals ≤ R.locals) : CallW R s args "UpdateRobot$Solver" "UpdateRobot$Names" 49 ury_Nm_goalOf urb_Nm_goalOf 4 (some .int) urs_Nm_goalOf urr_Nm_goalOf 0 0 1 :=
  cwV 1 hts (ub_goodV ubw_265 ubw_228 ubw_229 ubw_31 urm_Nm_goalOf) rfl rfl rfl (by decide +kernel) hR
theorem urc_So_55 {R : Room} {s : State} {args : Array Value} (hts : ∀ w ∈ ub_T, w.before args s = true) (hR : urr_So_lacksAtTarget.frames + 1 ≤ R.frames ∧ 8 + (5 + 11) + urr_So_lacksAtTarget.locals ≤ R.locals) : CallW R s args "UpdateRobot$Solver" "UpdateRobot$Solver" 55 ury_So_lacksAtTarget urb_So_lacksAtTarget 5 (some .boolean) urs_So_lacksAtTarget urr_So_lacksAtTarget 0 0 2 :=
  cwV 2 hts (ub_goodV ubw_270 ubw_272 (List.mem_filter.mpr ⟨List.mem_append_left _ (List.mem_map.mpr ⟨(ury_So_lacksAtTarget, 2), List.mem_of_getElem? (i := 2) rfl, rfl⟩), rfl⟩) ubw_32 urm_So_lacksAtTarget) rfl rfl rfl (by decide +kernel) hR
theorem urc_So_59 {R : Room} {s : State} {args : Array Value} (hts : ∀ w ∈ ub_T, w.before args s = true) (hR : urr_Nm_hasVersion.frames + 1 ≤ R.frames ∧ 8 + (3 + 11) + urr_Nm_hasVersion.locals ≤ R.locals) : CallW R s args "UpdateRobot$Solver" "UpdateRobot$Names" 59 ury_Nm_hasVersion urb_Nm_hasVersion 3 (some .boolean) urs_Nm_hasVersion urr_Nm_hasVersion 0 0 2 :=
  cwV 2 hts (ub_goodV ubw_274 ubw_207 ubw_208 ubw_31 urm_Nm_hasVersion) rfl rfl rfl (by decide +kernel) hR
theorem urc_So_63 {R : Room} {s : State} {args : Array Value} (hts : ∀ w ∈ ub_T, w.before args s = true) (hR : urr_Nm_isKnown.frames + 1 ≤ R.frames ∧ 8 + (2 + 11) + urr_Nm_isKnown.locals ≤ R.locals) : CallW R s args "UpdateRobot$Solver" "UpdateRobot$Names" 63 ury_Nm_isKnown urb_Nm_isKnown 2 (some .boolean) urs_Nm_isKnown urr_Nm_isKnown 0 0 1 :=
  cwV 1 hts (ub_goodV ubw_275 ubw_195 ubw_196 ubw_31 urm_Nm_isKnown) rfl rfl rfl (by decide +kernel) hR
theorem urw_Rb_103 : Cond.constant "UpdateRobot" 103 100000 ∈ ub_T := ubw_285
theorem urw_Rb_104 : Cond.constant "UpdateRobot" 104 1000000000 ∈ ub_T := ubw_286
theorem rfc_Md_74 {R : Room} {s : State} {args : Array Value} (hts : ∀ w ∈ ub_T, w.before args s = true) (hR : rfr_Md_isName.frames + 1 ≤ R.frames ∧ 8 + (2 + 11) + rfr_Md_isName.locals ≤ R.locals) : CallW R s args "UpdateRobotModel" "UpdateRobotModel" 74 rfy_Md_isName rfb_Md_isName 2 (some .boolean) rfs_Md_isName rfr_Md_isName 0 0 1 :=
  cwV 1 hts (ub_goodV ubw_488 ubw_490 (List.mem_filter.mpr ⟨List.mem_append_left _ (List.mem_map.mpr ⟨(rfy_Md_isName, 25), List.mem_of_getElem? (i := 11) rfl, rfl⟩), rfl⟩) ubw_34 rfm_Md_isName) rfl rfl rfl (by decide +kernel) hR
theorem rfc_Md_78 {R : Room} {s : State} {args : Array Value} (hts : ∀ w ∈ ub_T, w.before args s = true) (hR : rfr_Md_isAllowed.frames + 1 ≤ R.frames ∧ 8 + (5 + 11) + rfr_Md_isAllowed.locals ≤ R.locals) : CallW R s args "UpdateRobotModel" "UpdateRobotModel" 78 rfy_Md_isAllowed rfb_Md_isAllowed 5 (some .boolean) rfs_Md_isAllowed rfr_Md_isAllowed 0 0 2 :=
  cwV 2 hts (ub_goodV ubw_516 ubw_518 (List.mem_filter.mpr ⟨List.mem_append_left _ (List.mem_map.mpr ⟨(rfy_Md_isAllowed, 25), List.mem_of_getElem? (i := 13) rfl, rfl⟩), rfl⟩) ubw_34 rfm_Md_isAllowed) rfl rfl rfl (by decide +kernel) hR
theorem rfc_Md_82 {R : Room} {s : State} {args : Array Value} (hts : ∀ w ∈ ub_T, w.before args s = true) (hR : rfr_Md_isHit.frames + 1 ≤ R.frames ∧ 8 + (2 + 11) + rfr_Md_isHit.locals ≤ R.locals) : CallW R s args "UpdateRobotModel" "UpdateRobotModel" 82 rfy_Md_isHit rfb_Md_isHit 2 (some .boolean) rfs_Md_isHit rfr_Md_isHit 0 0 1 :=
  cwV 1 hts (ub_goodV ubw_520 ubw_522 (List.mem_filter.mpr ⟨List.mem_append_left _ (List.mem_map.mpr ⟨(rfy_Md_isHit, 25), List.mem_of_getElem? (i := 14) rfl, rfl⟩), rfl⟩) ubw_34 rfm_Md_isHit) rfl rfl rfl (by decide +kernel) hR
theorem rfc_Md_85 {R : Room} {s : State} {args : Array Value} (hts : ∀ w ∈ ub_T, w.before args s = true) (hR : rfr_Md_goalOf.frames + 1 ≤ R.frames ∧ 8 + (3 + 11) + rfr_Md_goalOf.locals ≤ R.locals) : CallW R s args "UpdateRobotModel" "UpdateRobotModel" 85 rfy_Md_goalOf rfb_Md_goalOf 3 (some .int) rfs_Md_goalOf rfr_Md_goalOf 0 0 1 :=
  cwV 1 hts (ub_goodV ubw_512 ubw_514 (List.mem_filter.mpr ⟨List.mem_append_left _ (List.mem_map.mpr ⟨(rfy_Md_goalOf, 25), List.mem_of_getElem? (i := 12) rfl, rfl⟩), rfl⟩) ubw_34 rfm_Md_goalOf) rfl rfl rfl (by decide +kernel) hR
theorem rfc_Md_89 {R : Room} {s : State} {args : Array Value} (hts : ∀ w ∈ ub_T, w.before args s = true) (hR : rfr_Md_areOne.frames + 1 ≤ R.frames ∧ 8 + (3 + 11) + rfr_Md_areOne.locals ≤ R.locals) : CallW R s args "UpdateRobotModel" "UpdateRobotModel" 89 rfy_Md_areOne rfb_Md_areOne 3 (some .boolean) rfs_Md_areOne rfr_Md_areOne 0 0 2 :=
  cwV 2 hts (ub_goodV ubw_532 ubw_534 (List.mem_filter.mpr ⟨List.mem_append_left _ (List.mem_map.mpr ⟨(rfy_Md_areOne, 25), List.mem_of_getElem? (i := 16) rfl, rfl⟩), rfl⟩) ubw_34 rfm_Md_areOne) rfl rfl rfl (by decide +kernel) hR
theorem rfc_Md_92 {R : Room} {s : State} {args : Array Value} (hts : ∀ w ∈ ub_T, w.before args s = true) (hR : rfr_Md_chiefOf.frames + 1 ≤ R.frames ∧ 8 + (3 + 11) + rfr_Md_chiefOf.locals ≤ R.locals) : CallW R s args "UpdateRobotModel" "UpdateRobotModel" 92 rfy_Md_chiefOf rfb_Md_chiefOf 3 (some .int) rfs_Md_chiefOf rfr_Md_chiefOf 0 0 1 :=
  cwV 1 hts (ub_goodV ubw_528 ubw_530 (List.mem_filter.mpr ⟨List.mem_append_left _ (List.mem_map.mpr ⟨(rfy_Md_chiefOf, 25), List.mem_of_getElem? (i := 15) rfl, rfl⟩), rfl⟩) ubw_34 rfm_Md_chiefOf) rfl rfl rfl (by decide +kernel) hR
theorem rfc_Md_95 {R : Room} {s : State} {args : Array Value} (hts : ∀ w ∈ ub_T, w.before args s = true) (hR : rfr_Md_wanting.frames + 1 ≤ R.frames ∧ 8 + (3 + 11) + rfr_Md_wanting.locals ≤ R.locals) : CallW R s args "UpdateRobotModel" "UpdateRobotModel" 95 rfy_Md_wanting rfb_Md_wanting 3 (some .int) rfs_Md_wanting rfr_Md_wanting 0 0 0 :=
  cwV 0 hts (ub_goodV ubw_544 ubw_546 (List.mem_filter.mpr ⟨List.mem_append_left _ (List.mem_map.mpr ⟨(rfy_Md_wanting, 25), List.mem_of_getElem? (i := 18) rfl, rfl⟩), rfl⟩) ubw_34 rfm_Md_wanting) rfl rfl rfl (by decide +kernel) hR
theorem rfc_Md_102 {R : Room} {s : State} {args : Array Value} (hts : ∀ w ∈ ub_T, w.before args s = true) (hR : rfr_Md_find.frames + 1 ≤ R.frames ∧ 8 + (4 + 11) + rfr_Md_find.locals ≤ R.locals) : CallW R s args "UpdateRobotModel" "UpdateRobotModel" 102 rfy_Md_find rfb_Md_find 4 (some .int) rfs_Md_find rfr_Md_find 0 0 1 :=
  cwV 1 hts (ub_goodV ubw_540 ubw_542 (List.mem_filter.mpr ⟨List.mem_append_left _ (List.mem_map.mpr ⟨(rfy_Md_find, 25), List.mem_of_getElem? (i := 17) rfl, rfl⟩), rfl⟩) ubw_34 rfm_Md_find) rfl rfl rfl (by decide +kernel) hR
theorem rfc_Md_110 {R : Room} {s : State} {args : Array Value} (hts : ∀ w ∈ ub_T, w.before args s = true) (hR : rfr_Md_raised.frames + 1 ≤ R.frames ∧ 8 + (2 + 11) + rfr_Md_raised.locals ≤ R.locals) : CallW R s args "UpdateRobotModel" "UpdateRobotModel" 110 rfy_Md_raised rfb_Md_raised 2 (some .int) rfs_Md_raised rfr_Md_raised 0 0 1 :=
  cwV 1 hts (ub_goodV ubw_574 ubw_576 (List.mem_filter.mpr ⟨List.mem_append_left _ (List.mem_map.mpr ⟨(rfy_Md_raised, 25), List.mem_of_getElem? (i := 23) rfl, rfl⟩), rfl⟩) ubw_34 rfm_Md_raised) rfl rfl rfl (by decide +kernel) hR
theorem rfc_Md_116 {R : Room} {s : State} {args : Array Value} (hts : ∀ w ∈ ub_T, w.before args s = true) (hR : rfr_Md_latest.frames + 1 ≤ R.frames ∧ 8 + (5 + 11) + rfr_Md_latest.locals ≤ R.locals) : CallW R s args "UpdateRobotModel" "UpdateRobotModel" 116 rfy_Md_latest rfb_Md_latest 5 (some .int) rfs_Md_latest rfr_Md_latest 0 0 2 :=
  cwV 2 hts (ub_goodV ubw_566 ubw_568 (List.mem_filter.mpr ⟨List.mem_append_left _ (List.mem_map.mpr ⟨(rfy_Md_latest, 25), List.mem_of_getElem? (i := 21) rfl, rfl⟩), rfl⟩) ubw_34 rfm_Md_latest) rfl rfl rfl (by decide +kernel) hR
theorem rfc_Md_120 {R : Room} {s : State} {args : Array Value} (hts : ∀ w ∈ ub_T, w.before args s = true) (hR : rfr_Md_isSame.frames + 1 ≤ R.frames ∧ 8 + (4 + 11) + rfr_Md_isSame.locals ≤ R.locals) : CallW R s args "UpdateRobotModel" "UpdateRobotModel" 120 rfy_Md_isSame rfb_Md_isSame 4 (some .boolean) rfs_Md_isSame rfr_Md_isSame 0 0 1 :=
  cwV 1 hts (ub_goodV ubw_570 ubw_572 (List.mem_filter.mpr ⟨List.mem_append_left _ (List.mem_map.mpr ⟨(rfy_Md_isSame, 25), List.mem_of_getElem? (i := 22) rfl, rfl⟩), rfl⟩) ubw_34 rfm_Md_isSame) rfl rfl rfl (by decide +kernel) hR
theorem rfc_Md_123 {R : Room} {s : State} {args : Array Value} (hts : ∀ w ∈ ub_T, w.before args s = true) (hR : rfr_Md_isUnitHit.frames + 1 ≤ R.frames ∧ 8 + (4 + 11) + rfr_Md_isUnitHit.locals ≤ R.locals) : CallW R s args "UpdateRobotModel" "UpdateRobotModel" 123 rfy_Md_isUnitHit rfb_Md_isUnitHit 4 (some .boolean) rfs_Md_isUnitHit rfr_Md_isUnitHit 0 0 1 :=
  cwV 1 hts (ub_goodV ubw_578 ubw_580 (List.mem_filter.mpr ⟨List.mem_append_left _ (List.mem_map.mpr ⟨(rfy_Md_isUnitHit, 25), List.mem_of_getElem? (i := 24) rfl, rfl⟩), rfl⟩) ubw_34 rfm_Md_isUnitHit) rfl rfl rfl (by decide +kernel) hR
theorem rfc_Md_126 {R : Room} {s : State} {args : Array Value} (hts : ∀ w ∈ ub_T, w.before args s = true) (hR : rfr_Md_opens.frames + 1 ≤ R.frames ∧ 8 + (4 + 11) + rfr_Md_opens.locals ≤ R.locals) : CallW R s args "UpdateRobotModel" "UpdateRobotModel" 126 rfy_Md_opens rfb_Md_opens 4 (some .int) rfs_Md_opens rfr_Md_opens 0 0 1 :=
  cwV 1 hts (ub_goodV ubw_582 ubw_584 (List.mem_filter.mpr ⟨List.mem_append_left _ (List.mem_map.mpr ⟨(rfy_Md_opens, 25), List.mem_of_getElem? (i := 25) rfl, rfl⟩), rfl⟩) ubw_34 rfm_Md_opens) rfl rfl rfl (by decide +kernel) hR
theorem rfc_Md_129 {R : Room} {s : State} {args : Array Value} (hts : ∀ w ∈ ub_T, w.before args s = true) (hR : rfr_Md_fill.frames + 1 ≤ R.frames ∧ 8 + (3 + 11) + rfr_Md_fill.locals ≤ R.locals) : CallW R s args "UpdateRobotModel" "UpdateRobotModel" 129 rfy_Md_fill rfb_Md_fill 3 none rfs_Md_fill rfr_Md_fill 0 0 1 :=
  cwV 1 hts (ub_goodV ubw_586 ubw_588 (List.mem_filter.mpr ⟨List.mem_append_left _ (List.mem_map.mpr ⟨(rfy_Md_fill, 25), List.mem_of_getElem? (i := 26) rfl, rfl⟩), rfl⟩) ubw_34 rfm_Md_fill) rfl rfl rfl (by decide +kernel) hR
theorem rfc_Md_136 {R : Room} {s : State} {args : Array Value} (hts : ∀ w ∈ ub_T, w.before args s = true) (hR : rfr_Md_isDue.frames + 1 ≤ R.frames ∧ 8 + (5 + 11) + rfr_Md_isDue.locals ≤ R.locals) : CallW R s args "UpdateRobotModel" "UpdateRobotModel" 136 rfy_Md_isDue rfb_Md_isDue 5 (some .boolean) rfs_Md_isDue rfr_Md_isDue 0 0 1 :=
  cwV 1 hts (ub_goodV ubw_558 ubw_560 (List.mem_filter.mpr ⟨List.mem_append_left _ (List.mem_map.mpr ⟨(rfy_Md_isDue, 25), List.mem_of_getElem? (i := 19) rfl, rfl⟩), rfl⟩) ubw_34 rfm_Md_isDue) rfl rfl rfl (by decide +kernel) hR
theorem rfc_Md_139 {R : Room} {s : State} {args : Array Value} (hts : ∀ w ∈ ub_T, w.before args s = true) (hR : rfr_Md_propose.frames + 1 ≤ R.frames ∧ 8 + (6 + 11) + rfr_Md_propose.locals ≤ R.locals) : CallW R s args "UpdateRobotModel" "UpdateRobotModel" 139 rfy_Md_propose rfb_Md_propose 6 (some .int) rfs_Md_propose rfr_Md_propose 0 0 1 :=
  cwV 1 hts (ub_goodV ubw_562 ubw_564 (List.mem_filter.mpr ⟨List.mem_append_left _ (List.mem_map.mpr ⟨(rfy_Md_propose, 25), List.mem_of_getElem? (i := 20) rfl, rfl⟩), rfl⟩) ubw_34 rfm_Md_propose) rfl rfl rfl (by decide +kernel) hR
theorem rfc_Md_142 {R : Room} {s : State} {args : Array Value} (hts : ∀ w ∈ ub_T, w.before args s = true) (hR : rfr_Md_redo.frames + 1 ≤ R.frames ∧ 8 + (3 + 11) + rfr_Md_redo.locals ≤ R.locals) : CallW R s args "UpdateRobotModel" "UpdateRobotModel" 142 rfy_Md_redo rfb_Md_redo 3 none rfs_Md_redo rfr_Md_redo 0 0 1 :=
  cwV 1 hts (ub_goodV ubw_606 ubw_608 (List.mem_filter.mpr ⟨List.mem_append_left _ (List.mem_map.mpr ⟨(rfy_Md_redo, 25), List.mem_of_getElem? (i := 27) rfl, rfl⟩), rfl⟩) ubw_34 rfm_Md_redo) rfl rfl rfl (by decide +kernel) hR
theorem rfw_Md_105 : Cond.constant "UpdateRobotModel" 105 100000 ∈ ub_T := ubw_552
theorem rfw_Md_109 : Cond.constant "UpdateRobotModel" 109 1000000000 ∈ ub_T := ubw_553
section urROWS
variable {p : Program} {l : Launch} {e : Env} {R : Room} {s : State} {m : MethodId} {args : Array Value} {below : List Frame} {meth : Method} {c : Code} {H : Heap} {locs : List Loc} {cells slots : Nat} {Q : State → Prop}
variable {cc : ByteArray} {pc : Nat} {ls : Array Slot} {rest : List Value} {D : va_G} {a : Nat → Nat} {k : Nat → ClassId} {σ : ST} {H0 : Heap}
theorem urg_Rb_18 (hx : p.tables.exec = Jvm.exec) (hb : c.code = cc) (hts : ∀ w ∈ ub_T, w.before args s = true) (hown : s.vm.findClass urR_Rb = some m.cls) (hK : ub_K D k s) (hP : ur_P D a k σ H) (hdg : decode cc pc = .ok (.getfield 18, 3))
    (kk : W p l e R s m args below meth c H locs cells slots Q (F0 m (pc + 3) ls (.int (σ 111 0) :: rest))) : W p l e R s m args below meth c H locs cells slots Q (F0 m pc ls (.ref (a 0) :: rest)) :=
  va_get (D := D) (ci := 0) (v := .int (σ 111 0)) (C := urR_Rb) (T := urF_Rb) (N := 6) hx hb hts uri_Rb hown hK hP 0 rfl rfl 0 (by decide) (hts _ ubw_160) (fun _ h => h) rfl hdg kk
theorem urg_Rb_25 (hx : p.tables.exec = Jvm.exec) (hb : c.code = cc) (hts : ∀ w ∈ ub_T, w.before args s = true) (hown : s.vm.findClass urR_Rb = some m.cls) (hK : ub_K D k s) (hP : ur_P D a k σ H) (hdg : decode cc pc = .ok (.getfield 25, 3))
    (kk : W p l e R s m args below meth c H locs cells slots Q (F0 m (pc + 3) ls (.ref (a 1) :: rest))) : W p l e R s m args below meth c H locs cells slots Q (F0 m pc ls (.ref (a 0) :: rest)) :=
  va_get (D := D) (ci := 0) (v := .ref (a 1)) (C := urR_Rb) (T := urF_Rb) (N := 6) hx hb hts uri_Rb hown hK hP 0 rfl rfl 1 (by decide) (hts _ ubw_161) (fun _ h => h) rfl hdg kk
theorem urg_Rb_32 (hx : p.tables.exec = Jvm.exec) (hb : c.code = cc) (hts : ∀ w ∈ ub_T, w.before args s = true) (hown : s.vm.findClass urR_Rb = some m.cls) (hK : ub_K D k s) (hP : ur_P D a k σ H) (hdg : decode cc pc = .ok (.getfield 32, 3))
    (kk : W p l e R s m args below meth c H locs cells slots Q (F0 m (pc + 3) ls (.ref (a 2) :: rest))) : W p l e R s m args below meth c H locs cells slots Q (F0 m pc ls (.ref (a 0) :: rest)) :=
  va_get (D := D) (ci := 0) (v := .ref (a 2)) (C := urR_Rb) (T := urF_Rb) (N := 6) hx hb hts uri_Rb hown hK hP 0 rfl rfl 2 (by decide) (hts _ ubw_162) (fun _ h => h) rfl hdg kk
theorem urg_Rb_39 (hx : p.tables.exec = Jvm.exec) (hb : c.code = cc) (hts : ∀ w ∈ ub_T, w.before args s = true) (hown : s.vm.findClass urR_Rb = some m.cls) (hK : ub_K D k s) (hP : ur_P D a k σ H) (hdg : decode cc pc = .ok (.getfield 39, 3))
    (kk : W p l e R s m args below meth c H locs cells slots Q (F0 m (pc + 3) ls (.ref (a 3) :: rest))) : W p l e R s m args below meth c H locs cells slots Q (F0 m pc ls (.ref (a 0) :: rest)) :=
  va_get (D := D) (ci := 0) (v := .ref (a 3)) (C := urR_Rb) (T := urF_Rb) (N := 6) hx hb hts uri_Rb hown hK hP 0 rfl rfl 3 (by decide) (hts _ ubw_163) (fun _ h => h) rfl hdg kk
theorem urg_Rb_43 (hx : p.tables.exec = Jvm.exec) (hb : c.code = cc) (hts : ∀ w ∈ ub_T, w.before args s = true) (hown : s.vm.findClass urR_Rb = some m.cls) (hK : ub_K D k s) (hP : ur_P D a k σ H) (hdg : decode cc pc = .ok (.getfield 43, 3))
    (kk : W p l e R s m args below meth c H locs cells slots Q (F0 m (pc + 3) ls (.int (σ 111 1) :: rest))) : W p l e R s m args below meth c H locs cells slots Q (F0 m pc ls (.ref (a 0) :: rest)) :=
  va_get (D := D) (ci := 0) (v := .int (σ 111 1)) (C := urR_Rb) (T := urF_Rb) (N := 6) hx hb hts uri_Rb hown hK hP 0 rfl rfl 4 (by decide) (hts _ ubw_164) (fun _ h => h) rfl hdg kk
theorem urg_Rb_46 (hx : p.tables.exec = Jvm.exec) (hb : c.code = cc) (hts : ∀ w ∈ ub_T, w.before args s = true) (hown : s.vm.findClass urR_Rb = some m.cls) (hK : ub_K D k s) (hP : ur_P D a k σ H) (hdg : decode cc pc = .ok (.getfield 46, 3))
    (kk : W p l e R s m args below meth c H locs cells slots Q (F0 m (pc + 3) ls (.int (σ 111 2) :: rest))) : W p l e R s m args below meth c H locs cells slots Q (F0 m pc ls (.ref (a 0) :: rest)) :=
  va_get (D := D) (ci := 0) (v := .int (σ 111 2)) (C := urR_Rb) (T := urF_Rb) (N := 6) hx hb hts uri_Rb hown hK hP 0 rfl rfl 5 (by decide) (hts _ ubw_165) (fun _ h => h) rfl hdg kk
theorem urg_Rb_67 (hx : p.tables.exec = Jvm.exec) (hb : c.code = cc) (hts : ∀ w ∈ ub_T, w.before args s = true) (hown : s.vm.findClass urR_Rb = some m.cls) (hK : ub_K D k s) (hP : ur_P D a k σ H) (hdg : decode cc pc = .ok (.getfield 67, 3))
    (kk : W p l e R s m args below meth c H locs cells slots Q (F0 m (pc + 3) ls (.ref (a 6) :: rest))) : W p l e R s m args below meth c H locs cells slots Q (F0 m pc ls (.ref (a 1) :: rest)) :=
  va_get (D := D) (ci := 1) (v := .ref (a 6)) (C := urR_Nm) (T := urF_Nm) (N := 12) hx hb hts uri_Nm hown hK hP 1 rfl rfl 10 (by decide) (hts _ ubw_79) (fun _ h => h) rfl hdg kk
theorem urg_Rb_71 (hx : p.tables.exec = Jvm.exec) (hb : c.code = cc) (hts : ∀ w ∈ ub_T, w.before args s = true) (hown : s.vm.findClass urR_Rb = some m.cls) (hK : ub_K D k s) (hP : ur_P D a k σ H) (hdg : decode cc pc = .ok (.getfield 71, 3))
    (kk : W p l e R s m args below meth c H locs cells slots Q (F0 m (pc + 3) ls (.ref (a 7) :: rest))) : W p l e R s m args below meth c H locs cells slots Q (F0 m pc ls (.ref (a 1) :: rest)) :=
  va_get (D := D) (ci := 1) (v := .ref (a 7)) (C := urR_Nm) (T := urF_Nm) (N := 12) hx hb hts uri_Nm hown hK hP 1 rfl rfl 11 (by decide) (hts _ ubw_82) (fun _ h => h) rfl hdg kk
theorem urg_Rb_74 (hx : p.tables.exec = Jvm.exec) (hb : c.code = cc) (hts : ∀ w ∈ ub_T, w.before args s = true) (hown : s.vm.findClass urR_Rb = some m.cls) (hK : ub_K D k s) (hP : ur_P D a k σ H) (hdg : decode cc pc = .ok (.getfield 74, 3))
    (kk : W p l e R s m args below meth c H locs cells slots Q (F0 m (pc + 3) ls (.ref (a (3 + 9)) :: rest))) : W p l e R s m args below meth c H locs cells slots Q (F0 m pc ls (.ref (a 1) :: rest)) :=
  va_get (D := D) (ci := 1) (v := .ref (a (3 + 9))) (C := urR_Nm) (T := urF_Nm) (N := 12) hx hb hts uri_Nm hown hK hP 1 rfl rfl 4 (by decide) (hts _ ubw_67) (fun _ h => h) rfl hdg kk
theorem urg_Rb_78 (hx : p.tables.exec = Jvm.exec) (hb : c.code = cc) (hts : ∀ w ∈ ub_T, w.before args s = true) (hown : s.vm.findClass urR_Rb = some m.cls) (hK : ub_K D k s) (hP : ur_P D a k σ H) (hdg : decode cc pc = .ok (.getfield 78, 3))
    (kk : W p l e R s m args below meth c H locs cells slots Q (F0 m (pc + 3) ls (.ref (a (4 + 9)) :: rest))) : W p l e R s m args below meth c H locs cells slots Q (F0 m pc ls (.ref (a 1) :: rest)) :=
  va_get (D := D) (ci := 1) (v := .ref (a (4 + 9))) (C := urR_Nm) (T := urF_Nm) (N := 12) hx hb hts uri_Nm hown hK hP 1 rfl rfl 5 (by decide) (hts _ ubw_69) (fun _ h => h) rfl hdg kk
theorem urg_Rb_81 (hx : p.tables.exec = Jvm.exec) (hb : c.code = cc) (hts : ∀ w ∈ ub_T, w.before args s = true) (hown : s.vm.findClass urR_Rb = some m.cls) (hK : ub_K D k s) (hP : ur_P D a k σ H) (hdg : decode cc pc = .ok (.getfield 81, 3))
    (kk : W p l e R s m args below meth c H locs cells slots Q (F0 m (pc + 3) ls (.ref (a (5 + 9)) :: rest))) : W p l e R s m args below meth c H locs cells slots Q (F0 m pc ls (.ref (a 1) :: rest)) :=
  va_get (D := D) (ci := 1) (v := .ref (a (5 + 9))) (C := urR_Nm) (T := urF_Nm) (N := 12) hx hb hts uri_Nm hown hK hP 1 rfl rfl 6 (by decide) (hts _ ubw_71) (fun _ h => h) rfl hdg kk
theorem urg_Rb_84 (hx : p.tables.exec = Jvm.exec) (hb : c.code = cc) (hts : ∀ w ∈ ub_T, w.before args s = true) (hown : s.vm.findClass urR_Rb = some m.cls) (hK : ub_K D k s) (hP : ur_P D a k σ H) (hdg : decode cc pc = .ok (.getfield 84, 3))
    (kk : W p l e R s m args below meth c H locs cells slots Q (F0 m (pc + 3) ls (.ref (a (6 + 9)) :: rest))) : W p l e R s m args below meth c H locs cells slots Q (F0 m pc ls (.ref (a 1) :: rest)) :=
  va_get (D := D) (ci := 1) (v := .ref (a (6 + 9))) (C := urR_Nm) (T := urF_Nm) (N := 12) hx hb hts uri_Nm hown hK hP 1 rfl rfl 7 (by decide) (hts _ ubw_73) (fun _ h => h) rfl hdg kk
theorem urg_Rb_87 (hx : p.tables.exec = Jvm.exec) (hb : c.code = cc) (hts : ∀ w ∈ ub_T, w.before args s = true) (hown : s.vm.findClass urR_Rb = some m.cls) (hK : ub_K D k s) (hP : ur_P D a k σ H) (hdg : decode cc pc = .ok (.getfield 87, 3))
    (kk : W p l e R s m args below meth c H locs cells slots Q (F0 m (pc + 3) ls (.ref (a (2 + 9)) :: rest))) : W p l e R s m args below meth c H locs cells slots Q (F0 m pc ls (.ref (a 1) :: rest)) :=
  va_get (D := D) (ci := 1) (v := .ref (a (2 + 9))) (C := urR_Nm) (T := urF_Nm) (N := 12) hx hb hts uri_Nm hown hK hP 1 rfl rfl 3 (by decide) (hts _ ubw_65) (fun _ h => h) rfl hdg kk
theorem urg_Rb_105 (hx : p.tables.exec = Jvm.exec) (hb : c.code = cc) (hts : ∀ w ∈ ub_T, w.before args s = true) (hown : s.vm.findClass urR_Rb = some m.cls) (hK : ub_K D k s) (hP : ur_P D a k σ H) (hdg : decode cc pc = .ok (.getfield 105, 3))
    (kk : W p l e R s m args below meth c H locs cells slots Q (F0 m (pc + 3) ls (.int (σ 111 4) :: rest))) : W p l e R s m args below meth c H locs cells slots Q (F0 m pc ls (.ref (a 3) :: rest)) :=
  va_get (D := D) (ci := 3) (v := .int (σ 111 4)) (C := urR_Pr) (T := urF_Pr) (N := 7) hx hb hts uri_Pr hown hK hP 3 rfl rfl 0 (by decide) (hts _ ubw_131) (fun _ h => h) rfl hdg kk
theorem urg_Rb_108 (hx : p.tables.exec = Jvm.exec) (hb : c.code = cc) (hts : ∀ w ∈ ub_T, w.before args s = true) (hown : s.vm.findClass urR_Rb = some m.cls) (hK : ub_K D k s) (hP : ur_P D a k σ H) (hdg : decode cc pc = .ok (.getfield 108, 3))
    (kk : W p l e R s m args below meth c H locs cells slots Q (F0 m (pc + 3) ls (.int (σ 111 3) :: rest))) : W p l e R s m args below meth c H locs cells slots Q (F0 m pc ls (.ref (a 1) :: rest)) :=
  va_get (D := D) (ci := 1) (v := .int (σ 111 3)) (C := urR_Nm) (T := urF_Nm) (N := 12) hx hb hts uri_Nm hown hK hP 1 rfl rfl 0 (by decide) (hts _ ubw_59) (fun _ h => h) rfl hdg kk
theorem urg_Rb_112 (hx : p.tables.exec = Jvm.exec) (hb : c.code = cc) (hts : ∀ w ∈ ub_T, w.before args s = true) (hown : s.vm.findClass urR_Rb = some m.cls) (hK : ub_K D k s) (hP : ur_P D a k σ H) (hdg : decode cc pc = .ok (.getfield 112, 3))
    (kk : W p l e R s m args below meth c H locs cells slots Q (F0 m (pc + 3) ls (.ref (a (7 + 9)) :: rest))) : W p l e R s m args below meth c H locs cells slots Q (F0 m pc ls (.ref (a 1) :: rest)) :=
  va_get (D := D) (ci := 1) (v := .ref (a (7 + 9))) (C := urR_Nm) (T := urF_Nm) (N := 12) hx hb hts uri_Nm hown hK hP 1 rfl rfl 8 (by decide) (hts _ ubw_75) (fun _ h => h) rfl hdg kk
theorem urg_Rb_120 (hx : p.tables.exec = Jvm.exec) (hb : c.code = cc) (hts : ∀ w ∈ ub_T, w.before args s = true) (hown : s.vm.findClass urR_Rb = some m.cls) (hK : ub_K D k s) (hP : ur_P D a k σ H) (hdg : decode cc pc = .ok (.getfield 120, 3))
    (kk : W p l e R s m args below meth c H locs cells slots Q (F0 m (pc + 3) ls (.ref (a (10 + 9)) :: rest))) : W p l e R s m args below meth c H locs cells slots Q (F0 m pc ls (.ref (a 3) :: rest)) :=
  va_get (D := D) (ci := 3) (v := .ref (a (10 + 9))) (C := urR_Pr) (T := urF_Pr) (N := 7) hx hb hts uri_Pr hown hK hP 3 rfl rfl 1 (by decide) (hts _ ubw_133) (fun _ h => h) rfl hdg kk
theorem urg_Rb_123 (hx : p.tables.exec = Jvm.exec) (hb : c.code = cc) (hts : ∀ w ∈ ub_T, w.before args s = true) (hown : s.vm.findClass urR_Rb = some m.cls) (hK : ub_K D k s) (hP : ur_P D a k σ H) (hdg : decode cc pc = .ok (.getfield 123, 3))
    (kk : W p l e R s m args below meth c H locs cells slots Q (F0 m (pc + 3) ls (.ref (a (11 + 9)) :: rest))) : W p l e R s m args below meth c H locs cells slots Q (F0 m pc ls (.ref (a 3) :: rest)) :=
  va_get (D := D) (ci := 3) (v := .ref (a (11 + 9))) (C := urR_Pr) (T := urF_Pr) (N := 7) hx hb hts uri_Pr hown hK hP 3 rfl rfl 2 (by decide) (hts _ ubw_135) (fun _ h => h) rfl hdg kk
theorem urg_Rb_126 (hx : p.tables.exec = Jvm.exec) (hb : c.code = cc) (hts : ∀ w ∈ ub_T, w.before args s = true) (hown : s.vm.findClass urR_Rb = some m.cls) (hK : ub_K D k s) (hP : ur_P D a k σ H) (hdg : decode cc pc = .ok (.getfield 126, 3))
    (kk : W p l e R s m args below meth c H locs cells slots Q (F0 m (pc + 3) ls (.ref (a (12 + 9)) :: rest))) : W p l e R s m args below meth c H locs cells slots Q (F0 m pc ls (.ref (a 3) :: rest)) :=
  va_get (D := D) (ci := 3) (v := .ref (a (12 + 9))) (C := urR_Pr) (T := urF_Pr) (N := 7) hx hb hts uri_Pr hown hK hP 3 rfl rfl 3 (by decide) (hts _ ubw_137) (fun _ h => h) rfl hdg kk
theorem urg_Rb_129 (hx : p.tables.exec = Jvm.exec) (hb : c.code = cc) (hts : ∀ w ∈ ub_T, w.before args s = true) (hown : s.vm.findClass urR_Rb = some m.cls) (hK : ub_K D k s) (hP : ur_P D a k σ H) (hdg : decode cc pc = .ok (.getfield 129, 3))
    (kk : W p l e R s m args below meth c H locs cells slots Q (F0 m (pc + 3) ls (.ref (a (13 + 9)) :: rest))) : W p l e R s m args below meth c H locs cells slots Q (F0 m pc ls (.ref (a 3) :: rest)) :=
  va_get (D := D) (ci := 3) (v := .ref (a (13 + 9))) (C := urR_Pr) (T := urF_Pr) (N := 7) hx hb hts uri_Pr hown hK hP 3 rfl rfl 4 (by decide) (hts _ ubw_139) (fun _ h => h) rfl hdg kk
theorem urg_Rb_132 (hx : p.tables.exec = Jvm.exec) (hb : c.code = cc) (hts : ∀ w ∈ ub_T, w.before args s = true) (hown : s.vm.findClass urR_Rb = some m.cls) (hK : ub_K D k s) (hP : ur_P D a k σ H) (hdg : decode cc pc = .ok (.getfield 132, 3))
    (kk : W p l e R s m args below meth c H locs cells slots Q (F0 m (pc + 3) ls (.ref (a 4) :: rest))) : W p l e R s m args below meth c H locs cells slots Q (F0 m pc ls (.ref (a 3) :: rest)) :=
  va_get (D := D) (ci := 3) (v := .ref (a 4)) (C := urR_Pr) (T := urF_Pr) (N := 7) hx hb hts uri_Pr hown hK hP 3 rfl rfl 5 (by decide) (hts _ ubw_141) (fun _ h => h) rfl hdg kk
theorem urg_Rb_136 (hx : p.tables.exec = Jvm.exec) (hb : c.code = cc) (hts : ∀ w ∈ ub_T, w.before args s = true) (hown : s.vm.findClass urR_Rb = some m.cls) (hK : ub_K D k s) (hP : ur_P D a k σ H) (hdg : decode cc pc = .ok (.getfield 136, 3))
    (kk : W p l e R s m args below meth c H locs cells slots Q (F0 m (pc + 3) ls (.ref (a 8) :: rest))) : W p l e R s m args below meth c H locs cells slots Q (F0 m pc ls (.ref (a 3) :: rest)) :=
  va_get (D := D) (ci := 3) (v := .ref (a 8)) (C := urR_Pr) (T := urF_Pr) (N := 7) hx hb hts uri_Pr hown hK hP 3 rfl rfl 6 (by decide) (hts _ ubw_143) (fun _ h => h) rfl hdg kk
theorem urg_Rb_165 (hx : p.tables.exec = Jvm.exec) (hb : c.code = cc) (hts : ∀ w ∈ ub_T, w.before args s = true) (hown : s.vm.findClass urR_Rb = some m.cls) (hK : ub_K D k s) (hP : ur_P D a k σ H) (hdg : decode cc pc = .ok (.getfield 165, 3))
    (kk : W p l e R s m args below meth c H locs cells slots Q (F0 m (pc + 3) ls (.ref (a (9 + 9)) :: rest))) : W p l e R s m args below meth c H locs cells slots Q (F0 m pc ls (.ref (a 2) :: rest)) :=
  va_get (D := D) (ci := 2) (v := .ref (a (9 + 9))) (C := urR_So) (T := urF_So) (N := 2) hx hb hts uri_So hown hK hP 2 rfl rfl 1 (by decide) (hts _ ubw_117) (fun _ h => h) rfl hdg kk
theorem urg_Rb_184 (hx : p.tables.exec = Jvm.exec) (hb : c.code = cc) (hts : ∀ w ∈ ub_T, w.before args s = true) (hown : s.vm.findClass urR_Rb = some m.cls) (hK : ub_K D k s) (hP : ur_P D a k σ H) (hdg : decode cc pc = .ok (.getfield 184, 3))
    (kk : W p l e R s m args below meth c H locs cells slots Q (F0 m (pc + 3) ls (.ref (a (0 + 9)) :: rest))) : W p l e R s m args below meth c H locs cells slots Q (F0 m pc ls (.ref (a 1) :: rest)) :=
  va_get (D := D) (ci := 1) (v := .ref (a (0 + 9))) (C := urR_Nm) (T := urF_Nm) (N := 12) hx hb hts uri_Nm hown hK hP 1 rfl rfl 1 (by decide) (hts _ ubw_61) (fun _ h => h) rfl hdg kk
theorem urg_Nm_9 (hx : p.tables.exec = Jvm.exec) (hb : c.code = cc) (hts : ∀ w ∈ ub_T, w.before args s = true) (hown : s.vm.findClass urR_Nm = some m.cls) (hK : ub_K D k s) (hP : ur_P D a k σ H) (hdg : decode cc pc = .ok (.getfield 9, 3))
    (kk : W p l e R s m args below meth c H locs cells slots Q (F0 m (pc + 3) ls (.int (σ 111 3) :: rest))) : W p l e R s m args below meth c H locs cells slots Q (F0 m pc ls (.ref (a 1) :: rest)) :=
  va_get (D := D) (ci := 1) (v := .int (σ 111 3)) (C := urR_Nm) (T := urF_Nm) (N := 12) hx hb hts uri_Nm hown hK hP 1 rfl rfl 0 (by decide) (hts _ ubw_57) (fun _ h => h) rfl hdg kk
theorem urg_Nm_15 (hx : p.tables.exec = Jvm.exec) (hb : c.code = cc) (hts : ∀ w ∈ ub_T, w.before args s = true) (hown : s.vm.findClass urR_Nm = some m.cls) (hK : ub_K D k s) (hP : ur_P D a k σ H) (hdg : decode cc pc = .ok (.getfield 15, 3))
    (kk : W p l e R s m args below meth c H locs cells slots Q (F0 m (pc + 3) ls (.ref (a (0 + 9)) :: rest))) : W p l e R s m args below meth c H locs cells slots Q (F0 m pc ls (.ref (a 1) :: rest)) :=
  va_get (D := D) (ci := 1) (v := .ref (a (0 + 9))) (C := urR_Nm) (T := urF_Nm) (N := 12) hx hb hts uri_Nm hown hK hP 1 rfl rfl 1 (by decide) (hts _ ubw_60) (fun _ h => h) rfl hdg kk
theorem urg_Nm_19 (hx : p.tables.exec = Jvm.exec) (hb : c.code = cc) (hts : ∀ w ∈ ub_T, w.before args s = true) (hown : s.vm.findClass urR_Nm = some m.cls) (hK : ub_K D k s) (hP : ur_P D a k σ H) (hdg : decode cc pc = .ok (.getfield 19, 3))
    (kk : W p l e R s m args below meth c H locs cells slots Q (F0 m (pc + 3) ls (.ref (a (1 + 9)) :: rest))) : W p l e R s m args below meth c H locs cells slots Q (F0 m pc ls (.ref (a 1) :: rest)) :=
  va_get (D := D) (ci := 1) (v := .ref (a (1 + 9))) (C := urR_Nm) (T := urF_Nm) (N := 12) hx hb hts uri_Nm hown hK hP 1 rfl rfl 2 (by decide) (hts _ ubw_62) (fun _ h => h) rfl hdg kk
theorem urg_Nm_22 (hx : p.tables.exec = Jvm.exec) (hb : c.code = cc) (hts : ∀ w ∈ ub_T, w.before args s = true) (hown : s.vm.findClass urR_Nm = some m.cls) (hK : ub_K D k s) (hP : ur_P D a k σ H) (hdg : decode cc pc = .ok (.getfield 22, 3))
    (kk : W p l e R s m args below meth c H locs cells slots Q (F0 m (pc + 3) ls (.ref (a (2 + 9)) :: rest))) : W p l e R s m args below meth c H locs cells slots Q (F0 m pc ls (.ref (a 1) :: rest)) :=
  va_get (D := D) (ci := 1) (v := .ref (a (2 + 9))) (C := urR_Nm) (T := urF_Nm) (N := 12) hx hb hts uri_Nm hown hK hP 1 rfl rfl 3 (by decide) (hts _ ubw_63) (fun _ h => h) rfl hdg kk
theorem urg_Nm_25 (hx : p.tables.exec = Jvm.exec) (hb : c.code = cc) (hts : ∀ w ∈ ub_T, w.before args s = true) (hown : s.vm.findClass urR_Nm = some m.cls) (hK : ub_K D k s) (hP : ur_P D a k σ H) (hdg : decode cc pc = .ok (.getfield 25, 3))
    (kk : W p l e R s m args below meth c H locs cells slots Q (F0 m (pc + 3) ls (.ref (a (3 + 9)) :: rest))) : W p l e R s m args below meth c H locs cells slots Q (F0 m pc ls (.ref (a 1) :: rest)) :=
  va_get (D := D) (ci := 1) (v := .ref (a (3 + 9))) (C := urR_Nm) (T := urF_Nm) (N := 12) hx hb hts uri_Nm hown hK hP 1 rfl rfl 4 (by decide) (hts _ ubw_66) (fun _ h => h) rfl hdg kk
theorem urg_Nm_28 (hx : p.tables.exec = Jvm.exec) (hb : c.code = cc) (hts : ∀ w ∈ ub_T, w.before args s = true) (hown : s.vm.findClass urR_Nm = some m.cls) (hK : ub_K D k s) (hP : ur_P D a k σ H) (hdg : decode cc pc = .ok (.getfield 28, 3))
    (kk : W p l e R s m args below meth c H locs cells slots Q (F0 m (pc + 3) ls (.ref (a (4 + 9)) :: rest))) : W p l e R s m args below meth c H locs cells slots Q (F0 m pc ls (.ref (a 1) :: rest)) :=
  va_get (D := D) (ci := 1) (v := .ref (a (4 + 9))) (C := urR_Nm) (T := urF_Nm) (N := 12) hx hb hts uri_Nm hown hK hP 1 rfl rfl 5 (by decide) (hts _ ubw_68) (fun _ h => h) rfl hdg kk
theorem urg_Nm_31 (hx : p.tables.exec = Jvm.exec) (hb : c.code = cc) (hts : ∀ w ∈ ub_T, w.before args s = true) (hown : s.vm.findClass urR_Nm = some m.cls) (hK : ub_K D k s) (hP : ur_P D a k σ H) (hdg : decode cc pc = .ok (.getfield 31, 3))
    (kk : W p l e R s m args below meth c H locs cells slots Q (F0 m (pc + 3) ls (.ref (a (5 + 9)) :: rest))) : W p l e R s m args below meth c H locs cells slots Q (F0 m pc ls (.ref (a 1) :: rest)) :=
  va_get (D := D) (ci := 1) (v := .ref (a (5 + 9))) (C := urR_Nm) (T := urF_Nm) (N := 12) hx hb hts uri_Nm hown hK hP 1 rfl rfl 6 (by decide) (hts _ ubw_70) (fun _ h => h) rfl hdg kk
theorem urg_Nm_34 (hx : p.tables.exec = Jvm.exec) (hb : c.code = cc) (hts : ∀ w ∈ ub_T, w.before args s = true) (hown : s.vm.findClass urR_Nm = some m.cls) (hK : ub_K D k s) (hP : ur_P D a k σ H) (hdg : decode cc pc = .ok (.getfield 34, 3))
    (kk : W p l e R s m args below meth c H locs cells slots Q (F0 m (pc + 3) ls (.ref (a (6 + 9)) :: rest))) : W p l e R s m args below meth c H locs cells slots Q (F0 m pc ls (.ref (a 1) :: rest)) :=
  va_get (D := D) (ci := 1) (v := .ref (a (6 + 9))) (C := urR_Nm) (T := urF_Nm) (N := 12) hx hb hts uri_Nm hown hK hP 1 rfl rfl 7 (by decide) (hts _ ubw_72) (fun _ h => h) rfl hdg kk
theorem urg_Nm_37 (hx : p.tables.exec = Jvm.exec) (hb : c.code = cc) (hts : ∀ w ∈ ub_T, w.before args s = true) (hown : s.vm.findClass urR_Nm = some m.cls) (hK : ub_K D k s) (hP : ur_P D a k σ H) (hdg : decode cc pc = .ok (.getfield 37, 3))
    (kk : W p l e R s m args below meth c H locs cells slots Q (F0 m (pc + 3) ls (.ref (a (7 + 9)) :: rest))) : W p l e R s m args below meth c H locs cells slots Q (F0 m pc ls (.ref (a 1) :: rest)) :=
  va_get (D := D) (ci := 1) (v := .ref (a (7 + 9))) (C := urR_Nm) (T := urF_Nm) (N := 12) hx hb hts uri_Nm hown hK hP 1 rfl rfl 8 (by decide) (hts _ ubw_74) (fun _ h => h) rfl hdg kk
theorem urg_Nm_42 (hx : p.tables.exec = Jvm.exec) (hb : c.code = cc) (hts : ∀ w ∈ ub_T, w.before args s = true) (hown : s.vm.findClass urR_Nm = some m.cls) (hK : ub_K D k s) (hP : ur_P D a k σ H) (hdg : decode cc pc = .ok (.getfield 42, 3))
    (kk : W p l e R s m args below meth c H locs cells slots Q (F0 m (pc + 3) ls (.ref (a 5) :: rest))) : W p l e R s m args below meth c H locs cells slots Q (F0 m pc ls (.ref (a 1) :: rest)) :=
  va_get (D := D) (ci := 1) (v := .ref (a 5)) (C := urR_Nm) (T := urF_Nm) (N := 12) hx hb hts uri_Nm hown hK hP 1 rfl rfl 9 (by decide) (hts _ ubw_76) (fun _ h => h) rfl hdg kk
theorem urg_Nm_45 (hx : p.tables.exec = Jvm.exec) (hb : c.code = cc) (hts : ∀ w ∈ ub_T, w.before args s = true) (hown : s.vm.findClass urR_Nm = some m.cls) (hK : ub_K D k s) (hP : ur_P D a k σ H) (hdg : decode cc pc = .ok (.getfield 45, 3))
    (kk : W p l e R s m args below meth c H locs cells slots Q (F0 m (pc + 3) ls (.ref (a 6) :: rest))) : W p l e R s m args below meth c H locs cells slots Q (F0 m pc ls (.ref (a 1) :: rest)) :=
  va_get (D := D) (ci := 1) (v := .ref (a 6)) (C := urR_Nm) (T := urF_Nm) (N := 12) hx hb hts uri_Nm hown hK hP 1 rfl rfl 10 (by decide) (hts _ ubw_77) (fun _ h => h) rfl hdg kk
theorem urg_Pr_9 (hx : p.tables.exec = Jvm.exec) (hb : c.code = cc) (hts : ∀ w ∈ ub_T, w.before args s = true) (hown : s.vm.findClass urR_Pr = some m.cls) (hK : ub_K D k s) (hP : ur_P D a k σ H) (hdg : decode cc pc = .ok (.getfield 9, 3))
    (kk : W p l e R s m args below meth c H locs cells slots Q (F0 m (pc + 3) ls (.int (σ 111 4) :: rest))) : W p l e R s m args below meth c H locs cells slots Q (F0 m pc ls (.ref (a 3) :: rest)) :=
  va_get (D := D) (ci := 3) (v := .int (σ 111 4)) (C := urR_Pr) (T := urF_Pr) (N := 7) hx hb hts uri_Pr hown hK hP 3 rfl rfl 0 (by decide) (hts _ ubw_130) (fun _ h => h) rfl hdg kk
theorem urg_Pr_15 (hx : p.tables.exec = Jvm.exec) (hb : c.code = cc) (hts : ∀ w ∈ ub_T, w.before args s = true) (hown : s.vm.findClass urR_Pr = some m.cls) (hK : ub_K D k s) (hP : ur_P D a k σ H) (hdg : decode cc pc = .ok (.getfield 15, 3))
    (kk : W p l e R s m args below meth c H locs cells slots Q (F0 m (pc + 3) ls (.ref (a (10 + 9)) :: rest))) : W p l e R s m args below meth c H locs cells slots Q (F0 m pc ls (.ref (a 3) :: rest)) :=
  va_get (D := D) (ci := 3) (v := .ref (a (10 + 9))) (C := urR_Pr) (T := urF_Pr) (N := 7) hx hb hts uri_Pr hown hK hP 3 rfl rfl 1 (by decide) (hts _ ubw_132) (fun _ h => h) rfl hdg kk
theorem urg_Pr_19 (hx : p.tables.exec = Jvm.exec) (hb : c.code = cc) (hts : ∀ w ∈ ub_T, w.before args s = true) (hown : s.vm.findClass urR_Pr = some m.cls) (hK : ub_K D k s) (hP : ur_P D a k σ H) (hdg : decode cc pc = .ok (.getfield 19, 3))
    (kk : W p l e R s m args below meth c H locs cells slots Q (F0 m (pc + 3) ls (.ref (a (11 + 9)) :: rest))) : W p l e R s m args below meth c H locs cells slots Q (F0 m pc ls (.ref (a 3) :: rest)) :=
  va_get (D := D) (ci := 3) (v := .ref (a (11 + 9))) (C := urR_Pr) (T := urF_Pr) (N := 7) hx hb hts uri_Pr hown hK hP 3 rfl rfl 2 (by decide) (hts _ ubw_134) (fun _ h => h) rfl hdg kk
theorem urg_Pr_22 (hx : p.tables.exec = Jvm.exec) (hb : c.code = cc) (hts : ∀ w ∈ ub_T, w.before args s = true) (hown : s.vm.findClass urR_Pr = some m.cls) (hK : ub_K D k s) (hP : ur_P D a k σ H) (hdg : decode cc pc = .ok (.getfield 22, 3))
    (kk : W p l e R s m args below meth c H locs cells slots Q (F0 m (pc + 3) ls (.ref (a (12 + 9)) :: rest))) : W p l e R s m args below meth c H locs cells slots Q (F0 m pc ls (.ref (a 3) :: rest)) :=
  va_get (D := D) (ci := 3) (v := .ref (a (12 + 9))) (C := urR_Pr) (T := urF_Pr) (N := 7) hx hb hts uri_Pr hown hK hP 3 rfl rfl 3 (by decide) (hts _ ubw_136) (fun _ h => h) rfl hdg kk
theorem urg_Pr_25 (hx : p.tables.exec = Jvm.exec) (hb : c.code = cc) (hts : ∀ w ∈ ub_T, w.before args s = true) (hown : s.vm.findClass urR_Pr = some m.cls) (hK : ub_K D k s) (hP : ur_P D a k σ H) (hdg : decode cc pc = .ok (.getfield 25, 3))
    (kk : W p l e R s m args below meth c H locs cells slots Q (F0 m (pc + 3) ls (.ref (a (13 + 9)) :: rest))) : W p l e R s m args below meth c H locs cells slots Q (F0 m pc ls (.ref (a 3) :: rest)) :=
  va_get (D := D) (ci := 3) (v := .ref (a (13 + 9))) (C := urR_Pr) (T := urF_Pr) (N := 7) hx hb hts uri_Pr hown hK hP 3 rfl rfl 4 (by decide) (hts _ ubw_138) (fun _ h => h) rfl hdg kk
theorem urg_Pr_28 (hx : p.tables.exec = Jvm.exec) (hb : c.code = cc) (hts : ∀ w ∈ ub_T, w.before args s = true) (hown : s.vm.findClass urR_Pr = some m.cls) (hK : ub_K D k s) (hP : ur_P D a k σ H) (hdg : decode cc pc = .ok (.getfield 28, 3))
    (kk : W p l e R s m args below meth c H locs cells slots Q (F0 m (pc + 3) ls (.ref (a 4) :: rest))) : W p l e R s m args below meth c H locs cells slots Q (F0 m pc ls (.ref (a 3) :: rest)) :=
  va_get (D := D) (ci := 3) (v := .ref (a 4)) (C := urR_Pr) (T := urF_Pr) (N := 7) hx hb hts uri_Pr hown hK hP 3 rfl rfl 5 (by decide) (hts _ ubw_140) (fun _ h => h) rfl hdg kk
theorem urg_Pr_34 (hx : p.tables.exec = Jvm.exec) (hb : c.code = cc) (hts : ∀ w ∈ ub_T, w.before args s = true) (hown : s.vm.findClass urR_Pr = some m.cls) (hK : ub_K D k s) (hP : ur_P D a k σ H) (hdg : decode cc pc = .ok (.getfield 34, 3))
    (kk : W p l e R s m args below meth c H locs cells slots Q (F0 m (pc + 3) ls (.ref (a 8) :: rest))) : W p l e R s m args below meth c H locs cells slots Q (F0 m pc ls (.ref (a 3) :: rest)) :=
  va_get (D := D) (ci := 3) (v := .ref (a 8)) (C := urR_Pr) (T := urF_Pr) (N := 7) hx hb hts uri_Pr hown hK hP 3 rfl rfl 6 (by decide) (hts _ ubw_142) (fun _ h => h) rfl hdg kk
theorem urg_So_9 (hx : p.tables.exec = Jvm.exec) (hb : c.code = cc) (hts : ∀ w ∈ ub_T, w.before args s = true) (hown : s.vm.findClass urR_So = some m.cls) (hK : ub_K D k s) (hP : ur_P D a k σ H) (hdg : decode cc pc = .ok (.getfield 9, 3))
    (kk : W p l e R s m args below meth c H locs cells slots Q (F0 m (pc + 3) ls (.ref (a (8 + 9)) :: rest))) : W p l e R s m args below meth c H locs cells slots Q (F0 m pc ls (.ref (a 2) :: rest)) :=
  va_get (D := D) (ci := 2) (v := .ref (a (8 + 9))) (C := urR_So) (T := urF_So) (N := 2) hx hb hts uri_So hown hK hP 2 rfl rfl 0 (by decide) (hts _ ubw_115) (fun _ h => h) rfl hdg kk
theorem urg_So_15 (hx : p.tables.exec = Jvm.exec) (hb : c.code = cc) (hts : ∀ w ∈ ub_T, w.before args s = true) (hown : s.vm.findClass urR_So = some m.cls) (hK : ub_K D k s) (hP : ur_P D a k σ H) (hdg : decode cc pc = .ok (.getfield 15, 3))
    (kk : W p l e R s m args below meth c H locs cells slots Q (F0 m (pc + 3) ls (.ref (a (9 + 9)) :: rest))) : W p l e R s m args below meth c H locs cells slots Q (F0 m pc ls (.ref (a 2) :: rest)) :=
  va_get (D := D) (ci := 2) (v := .ref (a (9 + 9))) (C := urR_So) (T := urF_So) (N := 2) hx hb hts uri_So hown hK hP 2 rfl rfl 1 (by decide) (hts _ ubw_116) (fun _ h => h) rfl hdg kk
theorem urg_So_26 (hx : p.tables.exec = Jvm.exec) (hb : c.code = cc) (hts : ∀ w ∈ ub_T, w.before args s = true) (hown : s.vm.findClass urR_So = some m.cls) (hK : ub_K D k s) (hP : ur_P D a k σ H) (hdg : decode cc pc = .ok (.getfield 26, 3))
    (kk : W p l e R s m args below meth c H locs cells slots Q (F0 m (pc + 3) ls (.ref (a 6) :: rest))) : W p l e R s m args below meth c H locs cells slots Q (F0 m pc ls (.ref (a 1) :: rest)) :=
  va_get (D := D) (ci := 1) (v := .ref (a 6)) (C := urR_Nm) (T := urF_Nm) (N := 12) hx hb hts uri_Nm hown hK hP 1 rfl rfl 10 (by decide) (hts _ ubw_78) (fun _ h => h) rfl hdg kk
theorem urg_So_32 (hx : p.tables.exec = Jvm.exec) (hb : c.code = cc) (hts : ∀ w ∈ ub_T, w.before args s = true) (hown : s.vm.findClass urR_So = some m.cls) (hK : ub_K D k s) (hP : ur_P D a k σ H) (hdg : decode cc pc = .ok (.getfield 32, 3))
    (kk : W p l e R s m args below meth c H locs cells slots Q (F0 m (pc + 3) ls (.ref (a 7) :: rest))) : W p l e R s m args below meth c H locs cells slots Q (F0 m pc ls (.ref (a 1) :: rest)) :=
  va_get (D := D) (ci := 1) (v := .ref (a 7)) (C := urR_Nm) (T := urF_Nm) (N := 12) hx hb hts uri_Nm hown hK hP 1 rfl rfl 11 (by decide) (hts _ ubw_81) (fun _ h => h) rfl hdg kk
theorem urg_So_42 (hx : p.tables.exec = Jvm.exec) (hb : c.code = cc) (hts : ∀ w ∈ ub_T, w.before args s = true) (hown : s.vm.findClass urR_So = some m.cls) (hK : ub_K D k s) (hP : ur_P D a k σ H) (hdg : decode cc pc = .ok (.getfield 42, 3))
    (kk : W p l e R s m args below meth c H locs cells slots Q (F0 m (pc + 3) ls (.int (σ 111 3) :: rest))) : W p l e R s m args below meth c H locs cells slots Q (F0 m pc ls (.ref (a 1) :: rest)) :=
  va_get (D := D) (ci := 1) (v := .int (σ 111 3)) (C := urR_Nm) (T := urF_Nm) (N := 12) hx hb hts uri_Nm hown hK hP 1 rfl rfl 0 (by decide) (hts _ ubw_58) (fun _ h => h) rfl hdg kk
theorem urg_So_52 (hx : p.tables.exec = Jvm.exec) (hb : c.code = cc) (hts : ∀ w ∈ ub_T, w.before args s = true) (hown : s.vm.findClass urR_So = some m.cls) (hK : ub_K D k s) (hP : ur_P D a k σ H) (hdg : decode cc pc = .ok (.getfield 52, 3))
    (kk : W p l e R s m args below meth c H locs cells slots Q (F0 m (pc + 3) ls (.ref (a (2 + 9)) :: rest))) : W p l e R s m args below meth c H locs cells slots Q (F0 m pc ls (.ref (a 1) :: rest)) :=
  va_get (D := D) (ci := 1) (v := .ref (a (2 + 9))) (C := urR_Nm) (T := urF_Nm) (N := 12) hx hb hts uri_Nm hown hK hP 1 rfl rfl 3 (by decide) (hts _ ubw_64) (fun _ h => h) rfl hdg kk
theorem urp_Rb_43 {v : Int32} (hx : p.tables.exec = Jvm.exec) (hb : c.code = cc) (hts : ∀ w ∈ ub_T, w.before args s = true) (hown : s.vm.findClass urR_Rb = some m.cls) (hK : ub_K D k s) (hP : ur_P D a k σ H) (hAd : ur_Ad a) (hS : va_S (ur_A a) H0 H locs) (hdg : decode cc pc = .ok (.putfield 43, 3))
    (kk : ∀ (H1 : Heap) (locs1 : List Loc), ur_P D a k (wr σ 111 1 v) H1 → va_S (ur_A a) H0 H1 locs1 → W p l e R s m args below meth c H1 locs1 cells slots Q (F0 m (pc + 3) ls rest)) : W p l e R s m args below meth c H locs cells slots Q (F0 m pc ls (.int v :: .ref (a 0) :: rest)) :=
  va_put (D := D) (ci := 0) (v := .int v) (ty := .int) (C := urR_Rb) (T := urF_Rb) (N := 6) hx hb hts uri_Rb urt_Rb urto_Rb urn_Rb hown hK hP (ur_D hAd) hS 0 rfl rfl 4 (by decide) (hts _ ubw_164) (fun _ h => h) rfl (by decide +kernel) rfl rfl (Nat.le_of_ble_eq_true rfl) hdg (fun H1 locs1 hP1 _ hS1 => kk H1 locs1 (by
    rw [ur_set0 (τ := wr σ 111 1 v) (by decide) (fun i hi => wr_ne (by omega)) ?_] at hP1
    · exact hP1
    · unfold ur_X
      rw [wr_ne (i' := 110) (by decide)]
      rfl) hS1)
theorem urp_Rb_46 {v : Int32} (hx : p.tables.exec = Jvm.exec) (hb : c.code = cc) (hts : ∀ w ∈ ub_T, w.before args s = true) (hown : s.vm.findClass urR_Rb = some m.cls) (hK : ub_K D k s) (hP : ur_P D a k σ H) (hAd : ur_Ad a) (hS : va_S (ur_A a) H0 H locs) (hdg : decode cc pc = .ok (.putfield 46, 3))
    (kk : ∀ (H1 : Heap) (locs1 : List Loc), ur_P D a k (wr σ 111 2 v) H1 → va_S (ur_A a) H0 H1 locs1 → W p l e R s m args below meth c H1 locs1 cells slots Q (F0 m (pc + 3) ls rest)) : W p l e R s m args below meth c H locs cells slots Q (F0 m pc ls (.int v :: .ref (a 0) :: rest)) :=
  va_put (D := D) (ci := 0) (v := .int v) (ty := .int) (C := urR_Rb) (T := urF_Rb) (N := 6) hx hb hts uri_Rb urt_Rb urto_Rb urn_Rb hown hK hP (ur_D hAd) hS 0 rfl rfl 5 (by decide) (hts _ ubw_165) (fun _ h => h) rfl (by decide +kernel) rfl rfl (Nat.le_of_ble_eq_true rfl) hdg (fun H1 locs1 hP1 _ hS1 => kk H1 locs1 (by
    rw [ur_set0 (τ := wr σ 111 2 v) (by decide) (fun i hi => wr_ne (by omega)) ?_] at hP1
    · exact hP1
    · unfold ur_X
      rw [wr_ne (i' := 110) (by decide)]
      rfl) hS1)
theorem urp_Nm_9 {v : Int32} (hx : p.tables.exec = Jvm.exec) (hb : c.code = cc) (hts : ∀ w ∈ ub_T, w.before args s = true) (hown : s.vm.findClass urR_Nm = some m.cls) (hK : ub_K D k s) (hP : ur_P D a k σ H) (hAd : ur_Ad a) (hS : va_S (ur_A a) H0 H locs) (hdg : decode cc pc = .ok (.putfield 9, 3))
    (kk : ∀ (H1 : Heap) (locs1 : List Loc), ur_P D a k (wr σ 111 3 v) H1 → va_S (ur_A a) H0 H1 locs1 → W p l e R s m args below meth c H1 locs1 cells slots Q (F0 m (pc + 3) ls rest)) : W p l e R s m args below meth c H locs cells slots Q (F0 m pc ls (.int v :: .ref (a 1) :: rest)) :=
  va_put (D := D) (ci := 1) (v := .int v) (ty := .int) (C := urR_Nm) (T := urF_Nm) (N := 12) hx hb hts uri_Nm urt_Nm urto_Nm urn_Nm hown hK hP (ur_D hAd) hS 1 rfl rfl 0 (by decide) (hts _ ubw_57) (fun _ h => h) rfl (by decide +kernel) rfl rfl (Nat.le_of_ble_eq_true rfl) hdg (fun H1 locs1 hP1 _ hS1 => kk H1 locs1 (by
    rw [ur_set0 (τ := wr σ 111 3 v) (by decide) (fun i hi => wr_ne (by omega)) ?_] at hP1
    · exact hP1
    · unfold ur_X
      rw [wr_ne (i' := 110) (by decide)]
      rfl) hS1)
theorem urp_Pr_9 {v : Int32} (hx : p.tables.exec = Jvm.exec) (hb : c.code = cc) (hts : ∀ w ∈ ub_T, w.before args s = true) (hown : s.vm.findClass urR_Pr = some m.cls) (hK : ub_K D k s) (hP : ur_P D a k σ H) (hAd : ur_Ad a) (hS : va_S (ur_A a) H0 H locs) (hdg : decode cc pc = .ok (.putfield 9, 3))
    (kk : ∀ (H1 : Heap) (locs1 : List Loc), ur_P D a k (wr σ 111 4 v) H1 → va_S (ur_A a) H0 H1 locs1 → W p l e R s m args below meth c H1 locs1 cells slots Q (F0 m (pc + 3) ls rest)) : W p l e R s m args below meth c H locs cells slots Q (F0 m pc ls (.int v :: .ref (a 3) :: rest)) :=
  va_put (D := D) (ci := 3) (v := .int v) (ty := .int) (C := urR_Pr) (T := urF_Pr) (N := 7) hx hb hts uri_Pr urt_Pr urto_Pr urn_Pr hown hK hP (ur_D hAd) hS 3 rfl rfl 0 (by decide) (hts _ ubw_130) (fun _ h => h) rfl (by decide +kernel) rfl rfl (Nat.le_of_ble_eq_true rfl) hdg (fun H1 locs1 hP1 _ hS1 => kk H1 locs1 (by
    rw [ur_set0 (τ := wr σ 111 4 v) (by decide) (fun i hi => wr_ne (by omega)) ?_] at hP1
    · exact hP1
    · unfold ur_X
      rw [wr_ne (i' := 110) (by decide)]
      rfl) hS1)
end urROWS
section rfROWS
variable {p : Program} {l : Launch} {e : Env} {R : Room} {s : State} {m : MethodId} {args : Array Value} {below : List Frame} {meth : Method} {c : Code} {H : Heap} {locs : List Loc} {cells slots : Nat} {Q : State → Prop}
variable {cc : ByteArray} {pc : Nat} {ls : Array Slot} {rest : List Value} {D : va_G} {a : Nat → Nat} {k : Nat → ClassId} {σ : ST} {H0 : Heap}
theorem rfg_Md_7 (hx : p.tables.exec = Jvm.exec) (hb : c.code = cc) (hts : ∀ w ∈ ub_T, w.before args s = true) (hown : s.vm.findClass rfR_Md = some m.cls) (hK : ub_K D k s) (hP : rf_P D a k σ H) (hdg : decode cc pc = .ok (.getfield 7, 3))
    (kk : W p l e R s m args below meth c H locs cells slots Q (F0 m (pc + 3) ls (.ref (a (0 + 1)) :: rest))) : W p l e R s m args below meth c H locs cells slots Q (F0 m pc ls (.ref (a 0) :: rest)) :=
  va_get (D := D) (ci := 4) (v := .ref (a (0 + 1))) (C := rfR_Md) (T := rfF_Md) (N := 25) hx hb hts rfi_Md hown hK hP 0 rfl rfl 6 (by decide) (hts _ ubw_410) (fun _ h => h) rfl hdg kk
theorem rfg_Md_13 (hx : p.tables.exec = Jvm.exec) (hb : c.code = cc) (hts : ∀ w ∈ ub_T, w.before args s = true) (hown : s.vm.findClass rfR_Md = some m.cls) (hK : ub_K D k s) (hP : rf_P D a k σ H) (hdg : decode cc pc = .ok (.getfield 13, 3))
    (kk : W p l e R s m args below meth c H locs cells slots Q (F0 m (pc + 3) ls (.ref (a (1 + 1)) :: rest))) : W p l e R s m args below meth c H locs cells slots Q (F0 m pc ls (.ref (a 0) :: rest)) :=
  va_get (D := D) (ci := 4) (v := .ref (a (1 + 1))) (C := rfR_Md) (T := rfF_Md) (N := 25) hx hb hts rfi_Md hown hK hP 0 rfl rfl 7 (by decide) (hts _ ubw_411) (fun _ h => h) rfl hdg kk
theorem rfg_Md_16 (hx : p.tables.exec = Jvm.exec) (hb : c.code = cc) (hts : ∀ w ∈ ub_T, w.before args s = true) (hown : s.vm.findClass rfR_Md = some m.cls) (hK : ub_K D k s) (hP : rf_P D a k σ H) (hdg : decode cc pc = .ok (.getfield 16, 3))
    (kk : W p l e R s m args below meth c H locs cells slots Q (F0 m (pc + 3) ls (.ref (a (2 + 1)) :: rest))) : W p l e R s m args below meth c H locs cells slots Q (F0 m pc ls (.ref (a 0) :: rest)) :=
  va_get (D := D) (ci := 4) (v := .ref (a (2 + 1))) (C := rfR_Md) (T := rfF_Md) (N := 25) hx hb hts rfi_Md hown hK hP 0 rfl rfl 8 (by decide) (hts _ ubw_412) (fun _ h => h) rfl hdg kk
theorem rfg_Md_19 (hx : p.tables.exec = Jvm.exec) (hb : c.code = cc) (hts : ∀ w ∈ ub_T, w.before args s = true) (hown : s.vm.findClass rfR_Md = some m.cls) (hK : ub_K D k s) (hP : rf_P D a k σ H) (hdg : decode cc pc = .ok (.getfield 19, 3))
    (kk : W p l e R s m args below meth c H locs cells slots Q (F0 m (pc + 3) ls (.ref (a (3 + 1)) :: rest))) : W p l e R s m args below meth c H locs cells slots Q (F0 m pc ls (.ref (a 0) :: rest)) :=
  va_get (D := D) (ci := 4) (v := .ref (a (3 + 1))) (C := rfR_Md) (T := rfF_Md) (N := 25) hx hb hts rfi_Md hown hK hP 0 rfl rfl 9 (by decide) (hts _ ubw_413) (fun _ h => h) rfl hdg kk
theorem rfg_Md_22 (hx : p.tables.exec = Jvm.exec) (hb : c.code = cc) (hts : ∀ w ∈ ub_T, w.before args s = true) (hown : s.vm.findClass rfR_Md = some m.cls) (hK : ub_K D k s) (hP : rf_P D a k σ H) (hdg : decode cc pc = .ok (.getfield 22, 3))
    (kk : W p l e R s m args below meth c H locs cells slots Q (F0 m (pc + 3) ls (.ref (a (4 + 1)) :: rest))) : W p l e R s m args below meth c H locs cells slots Q (F0 m pc ls (.ref (a 0) :: rest)) :=
  va_get (D := D) (ci := 4) (v := .ref (a (4 + 1))) (C := rfR_Md) (T := rfF_Md) (N := 25) hx hb hts rfi_Md hown hK hP 0 rfl rfl 10 (by decide) (hts _ ubw_414) (fun _ h => h) rfl hdg kk
theorem rfg_Md_25 (hx : p.tables.exec = Jvm.exec) (hb : c.code = cc) (hts : ∀ w ∈ ub_T, w.before args s = true) (hown : s.vm.findClass rfR_Md = some m.cls) (hK : ub_K D k s) (hP : rf_P D a k σ H) (hdg : decode cc pc = .ok (.getfield 25, 3))
    (kk : W p l e R s m args below meth c H locs cells slots Q (F0 m (pc + 3) ls (.ref (a (5 + 1)) :: rest))) : W p l e R s m args below meth c H locs cells slots Q (F0 m pc ls (.ref (a 0) :: rest)) :=
  va_get (D := D) (ci := 4) (v := .ref (a (5 + 1))) (C := rfR_Md) (T := rfF_Md) (N := 25) hx hb hts rfi_Md hown hK hP 0 rfl rfl 11 (by decide) (hts _ ubw_415) (fun _ h => h) rfl hdg kk
theorem rfg_Md_28 (hx : p.tables.exec = Jvm.exec) (hb : c.code = cc) (hts : ∀ w ∈ ub_T, w.before args s = true) (hown : s.vm.findClass rfR_Md = some m.cls) (hK : ub_K D k s) (hP : rf_P D a k σ H) (hdg : decode cc pc = .ok (.getfield 28, 3))
    (kk : W p l e R s m args below meth c H locs cells slots Q (F0 m (pc + 3) ls (.ref (a (6 + 1)) :: rest))) : W p l e R s m args below meth c H locs cells slots Q (F0 m pc ls (.ref (a 0) :: rest)) :=
  va_get (D := D) (ci := 4) (v := .ref (a (6 + 1))) (C := rfR_Md) (T := rfF_Md) (N := 25) hx hb hts rfi_Md hown hK hP 0 rfl rfl 12 (by decide) (hts _ ubw_416) (fun _ h => h) rfl hdg kk
theorem rfg_Md_31 (hx : p.tables.exec = Jvm.exec) (hb : c.code = cc) (hts : ∀ w ∈ ub_T, w.before args s = true) (hown : s.vm.findClass rfR_Md = some m.cls) (hK : ub_K D k s) (hP : rf_P D a k σ H) (hdg : decode cc pc = .ok (.getfield 31, 3))
    (kk : W p l e R s m args below meth c H locs cells slots Q (F0 m (pc + 3) ls (.ref (a (7 + 1)) :: rest))) : W p l e R s m args below meth c H locs cells slots Q (F0 m pc ls (.ref (a 0) :: rest)) :=
  va_get (D := D) (ci := 4) (v := .ref (a (7 + 1))) (C := rfR_Md) (T := rfF_Md) (N := 25) hx hb hts rfi_Md hown hK hP 0 rfl rfl 13 (by decide) (hts _ ubw_417) (fun _ h => h) rfl hdg kk
theorem rfg_Md_34 (hx : p.tables.exec = Jvm.exec) (hb : c.code = cc) (hts : ∀ w ∈ ub_T, w.before args s = true) (hown : s.vm.findClass rfR_Md = some m.cls) (hK : ub_K D k s) (hP : rf_P D a k σ H) (hdg : decode cc pc = .ok (.getfield 34, 3))
    (kk : W p l e R s m args below meth c H locs cells slots Q (F0 m (pc + 3) ls (.ref (a (8 + 1)) :: rest))) : W p l e R s m args below meth c H locs cells slots Q (F0 m pc ls (.ref (a 0) :: rest)) :=
  va_get (D := D) (ci := 4) (v := .ref (a (8 + 1))) (C := rfR_Md) (T := rfF_Md) (N := 25) hx hb hts rfi_Md hown hK hP 0 rfl rfl 14 (by decide) (hts _ ubw_418) (fun _ h => h) rfl hdg kk
theorem rfg_Md_37 (hx : p.tables.exec = Jvm.exec) (hb : c.code = cc) (hts : ∀ w ∈ ub_T, w.before args s = true) (hown : s.vm.findClass rfR_Md = some m.cls) (hK : ub_K D k s) (hP : rf_P D a k σ H) (hdg : decode cc pc = .ok (.getfield 37, 3))
    (kk : W p l e R s m args below meth c H locs cells slots Q (F0 m (pc + 3) ls (.ref (a (9 + 1)) :: rest))) : W p l e R s m args below meth c H locs cells slots Q (F0 m pc ls (.ref (a 0) :: rest)) :=
  va_get (D := D) (ci := 4) (v := .ref (a (9 + 1))) (C := rfR_Md) (T := rfF_Md) (N := 25) hx hb hts rfi_Md hown hK hP 0 rfl rfl 15 (by decide) (hts _ ubw_419) (fun _ h => h) rfl hdg kk
theorem rfg_Md_40 (hx : p.tables.exec = Jvm.exec) (hb : c.code = cc) (hts : ∀ w ∈ ub_T, w.before args s = true) (hown : s.vm.findClass rfR_Md = some m.cls) (hK : ub_K D k s) (hP : rf_P D a k σ H) (hdg : decode cc pc = .ok (.getfield 40, 3))
    (kk : W p l e R s m args below meth c H locs cells slots Q (F0 m (pc + 3) ls (.ref (a (10 + 1)) :: rest))) : W p l e R s m args below meth c H locs cells slots Q (F0 m pc ls (.ref (a 0) :: rest)) :=
  va_get (D := D) (ci := 4) (v := .ref (a (10 + 1))) (C := rfR_Md) (T := rfF_Md) (N := 25) hx hb hts rfi_Md hown hK hP 0 rfl rfl 16 (by decide) (hts _ ubw_420) (fun _ h => h) rfl hdg kk
theorem rfg_Md_43 (hx : p.tables.exec = Jvm.exec) (hb : c.code = cc) (hts : ∀ w ∈ ub_T, w.before args s = true) (hown : s.vm.findClass rfR_Md = some m.cls) (hK : ub_K D k s) (hP : rf_P D a k σ H) (hdg : decode cc pc = .ok (.getfield 43, 3))
    (kk : W p l e R s m args below meth c H locs cells slots Q (F0 m (pc + 3) ls (.ref (a (11 + 1)) :: rest))) : W p l e R s m args below meth c H locs cells slots Q (F0 m pc ls (.ref (a 0) :: rest)) :=
  va_get (D := D) (ci := 4) (v := .ref (a (11 + 1))) (C := rfR_Md) (T := rfF_Md) (N := 25) hx hb hts rfi_Md hown hK hP 0 rfl rfl 17 (by decide) (hts _ ubw_421) (fun _ h => h) rfl hdg kk
theorem rfg_Md_46 (hx : p.tables.exec = Jvm.exec) (hb : c.code = cc) (hts : ∀ w ∈ ub_T, w.before args s = true) (hown : s.vm.findClass rfR_Md = some m.cls) (hK : ub_K D k s) (hP : rf_P D a k σ H) (hdg : decode cc pc = .ok (.getfield 46, 3))
    (kk : W p l e R s m args below meth c H locs cells slots Q (F0 m (pc + 3) ls (.ref (a (12 + 1)) :: rest))) : W p l e R s m args below meth c H locs cells slots Q (F0 m pc ls (.ref (a 0) :: rest)) :=
  va_get (D := D) (ci := 4) (v := .ref (a (12 + 1))) (C := rfR_Md) (T := rfF_Md) (N := 25) hx hb hts rfi_Md hown hK hP 0 rfl rfl 19 (by decide) (hts _ ubw_423) (fun _ h => h) rfl hdg kk
theorem rfg_Md_49 (hx : p.tables.exec = Jvm.exec) (hb : c.code = cc) (hts : ∀ w ∈ ub_T, w.before args s = true) (hown : s.vm.findClass rfR_Md = some m.cls) (hK : ub_K D k s) (hP : rf_P D a k σ H) (hdg : decode cc pc = .ok (.getfield 49, 3))
    (kk : W p l e R s m args below meth c H locs cells slots Q (F0 m (pc + 3) ls (.ref (a (13 + 1)) :: rest))) : W p l e R s m args below meth c H locs cells slots Q (F0 m pc ls (.ref (a 0) :: rest)) :=
  va_get (D := D) (ci := 4) (v := .ref (a (13 + 1))) (C := rfR_Md) (T := rfF_Md) (N := 25) hx hb hts rfi_Md hown hK hP 0 rfl rfl 20 (by decide) (hts _ ubw_424) (fun _ h => h) rfl hdg kk
theorem rfg_Md_52 (hx : p.tables.exec = Jvm.exec) (hb : c.code = cc) (hts : ∀ w ∈ ub_T, w.before args s = true) (hown : s.vm.findClass rfR_Md = some m.cls) (hK : ub_K D k s) (hP : rf_P D a k σ H) (hdg : decode cc pc = .ok (.getfield 52, 3))
    (kk : W p l e R s m args below meth c H locs cells slots Q (F0 m (pc + 3) ls (.ref (a (14 + 1)) :: rest))) : W p l e R s m args below meth c H locs cells slots Q (F0 m pc ls (.ref (a 0) :: rest)) :=
  va_get (D := D) (ci := 4) (v := .ref (a (14 + 1))) (C := rfR_Md) (T := rfF_Md) (N := 25) hx hb hts rfi_Md hown hK hP 0 rfl rfl 21 (by decide) (hts _ ubw_425) (fun _ h => h) rfl hdg kk
theorem rfg_Md_55 (hx : p.tables.exec = Jvm.exec) (hb : c.code = cc) (hts : ∀ w ∈ ub_T, w.before args s = true) (hown : s.vm.findClass rfR_Md = some m.cls) (hK : ub_K D k s) (hP : rf_P D a k σ H) (hdg : decode cc pc = .ok (.getfield 55, 3))
    (kk : W p l e R s m args below meth c H locs cells slots Q (F0 m (pc + 3) ls (.ref (a (15 + 1)) :: rest))) : W p l e R s m args below meth c H locs cells slots Q (F0 m pc ls (.ref (a 0) :: rest)) :=
  va_get (D := D) (ci := 4) (v := .ref (a (15 + 1))) (C := rfR_Md) (T := rfF_Md) (N := 25) hx hb hts rfi_Md hown hK hP 0 rfl rfl 22 (by decide) (hts _ ubw_426) (fun _ h => h) rfl hdg kk
theorem rfg_Md_58 (hx : p.tables.exec = Jvm.exec) (hb : c.code = cc) (hts : ∀ w ∈ ub_T, w.before args s = true) (hown : s.vm.findClass rfR_Md = some m.cls) (hK : ub_K D k s) (hP : rf_P D a k σ H) (hdg : decode cc pc = .ok (.getfield 58, 3))
    (kk : W p l e R s m args below meth c H locs cells slots Q (F0 m (pc + 3) ls (.ref (a (16 + 1)) :: rest))) : W p l e R s m args below meth c H locs cells slots Q (F0 m pc ls (.ref (a 0) :: rest)) :=
  va_get (D := D) (ci := 4) (v := .ref (a (16 + 1))) (C := rfR_Md) (T := rfF_Md) (N := 25) hx hb hts rfi_Md hown hK hP 0 rfl rfl 23 (by decide) (hts _ ubw_427) (fun _ h => h) rfl hdg kk
theorem rfg_Md_61 (hx : p.tables.exec = Jvm.exec) (hb : c.code = cc) (hts : ∀ w ∈ ub_T, w.before args s = true) (hown : s.vm.findClass rfR_Md = some m.cls) (hK : ub_K D k s) (hP : rf_P D a k σ H) (hdg : decode cc pc = .ok (.getfield 61, 3))
    (kk : W p l e R s m args below meth c H locs cells slots Q (F0 m (pc + 3) ls (.ref (a (17 + 1)) :: rest))) : W p l e R s m args below meth c H locs cells slots Q (F0 m pc ls (.ref (a 0) :: rest)) :=
  va_get (D := D) (ci := 4) (v := .ref (a (17 + 1))) (C := rfR_Md) (T := rfF_Md) (N := 25) hx hb hts rfi_Md hown hK hP 0 rfl rfl 24 (by decide) (hts _ ubw_428) (fun _ h => h) rfl hdg kk
theorem rfg_Md_64 (hx : p.tables.exec = Jvm.exec) (hb : c.code = cc) (hts : ∀ w ∈ ub_T, w.before args s = true) (hown : s.vm.findClass rfR_Md = some m.cls) (hK : ub_K D k s) (hP : rf_P D a k σ H) (hdg : decode cc pc = .ok (.getfield 64, 3))
    (kk : W p l e R s m args below meth c H locs cells slots Q (F0 m (pc + 3) ls (.int (σ 18 0) :: rest))) : W p l e R s m args below meth c H locs cells slots Q (F0 m pc ls (.ref (a 0) :: rest)) :=
  va_get (D := D) (ci := 4) (v := .int (σ 18 0)) (C := rfR_Md) (T := rfF_Md) (N := 25) hx hb hts rfi_Md hown hK hP 0 rfl rfl 0 (by decide) (hts _ ubw_404) (fun _ h => h) rfl hdg kk
theorem rfg_Md_71 (hx : p.tables.exec = Jvm.exec) (hb : c.code = cc) (hts : ∀ w ∈ ub_T, w.before args s = true) (hown : s.vm.findClass rfR_Md = some m.cls) (hK : ub_K D k s) (hP : rf_P D a k σ H) (hdg : decode cc pc = .ok (.getfield 71, 3))
    (kk : W p l e R s m args below meth c H locs cells slots Q (F0 m (pc + 3) ls (.int (σ 18 3) :: rest))) : W p l e R s m args below meth c H locs cells slots Q (F0 m pc ls (.ref (a 0) :: rest)) :=
  va_get (D := D) (ci := 4) (v := .int (σ 18 3)) (C := rfR_Md) (T := rfF_Md) (N := 25) hx hb hts rfi_Md hown hK hP 0 rfl rfl 3 (by decide) (hts _ ubw_407) (fun _ h => h) rfl hdg kk
theorem rfg_Md_99 (hx : p.tables.exec = Jvm.exec) (hb : c.code = cc) (hts : ∀ w ∈ ub_T, w.before args s = true) (hown : s.vm.findClass rfR_Md = some m.cls) (hK : ub_K D k s) (hP : rf_P D a k σ H) (hdg : decode cc pc = .ok (.getfield 99, 3))
    (kk : W p l e R s m args below meth c H locs cells slots Q (F0 m (pc + 3) ls (.int (σ 18 6) :: rest))) : W p l e R s m args below meth c H locs cells slots Q (F0 m pc ls (.ref (a 0) :: rest)) :=
  va_get (D := D) (ci := 4) (v := .int (σ 18 6)) (C := rfR_Md) (T := rfF_Md) (N := 25) hx hb hts rfi_Md hown hK hP 0 rfl rfl 18 (by decide) (hts _ ubw_422) (fun _ h => h) rfl hdg kk
theorem rfg_Md_106 (hx : p.tables.exec = Jvm.exec) (hb : c.code = cc) (hts : ∀ w ∈ ub_T, w.before args s = true) (hown : s.vm.findClass rfR_Md = some m.cls) (hK : ub_K D k s) (hP : rf_P D a k σ H) (hdg : decode cc pc = .ok (.getfield 106, 3))
    (kk : W p l e R s m args below meth c H locs cells slots Q (F0 m (pc + 3) ls (.int (σ 18 2) :: rest))) : W p l e R s m args below meth c H locs cells slots Q (F0 m pc ls (.ref (a 0) :: rest)) :=
  va_get (D := D) (ci := 4) (v := .int (σ 18 2)) (C := rfR_Md) (T := rfF_Md) (N := 25) hx hb hts rfi_Md hown hK hP 0 rfl rfl 2 (by decide) (hts _ ubw_406) (fun _ h => h) rfl hdg kk
theorem rfg_Md_113 (hx : p.tables.exec = Jvm.exec) (hb : c.code = cc) (hts : ∀ w ∈ ub_T, w.before args s = true) (hown : s.vm.findClass rfR_Md = some m.cls) (hK : ub_K D k s) (hP : rf_P D a k σ H) (hdg : decode cc pc = .ok (.getfield 113, 3))
    (kk : W p l e R s m args below meth c H locs cells slots Q (F0 m (pc + 3) ls (.int (σ 18 4) :: rest))) : W p l e R s m args below meth c H locs cells slots Q (F0 m pc ls (.ref (a 0) :: rest)) :=
  va_get (D := D) (ci := 4) (v := .int (σ 18 4)) (C := rfR_Md) (T := rfF_Md) (N := 25) hx hb hts rfi_Md hown hK hP 0 rfl rfl 4 (by decide) (hts _ ubw_408) (fun _ h => h) rfl hdg kk
theorem rfg_Md_133 (hx : p.tables.exec = Jvm.exec) (hb : c.code = cc) (hts : ∀ w ∈ ub_T, w.before args s = true) (hown : s.vm.findClass rfR_Md = some m.cls) (hK : ub_K D k s) (hP : rf_P D a k σ H) (hdg : decode cc pc = .ok (.getfield 133, 3))
    (kk : W p l e R s m args below meth c H locs cells slots Q (F0 m (pc + 3) ls (.int (σ 18 5) :: rest))) : W p l e R s m args below meth c H locs cells slots Q (F0 m pc ls (.ref (a 0) :: rest)) :=
  va_get (D := D) (ci := 4) (v := .int (σ 18 5)) (C := rfR_Md) (T := rfF_Md) (N := 25) hx hb hts rfi_Md hown hK hP 0 rfl rfl 5 (by decide) (hts _ ubw_409) (fun _ h => h) rfl hdg kk
theorem rfp_Md_68 {v : Int32} (hx : p.tables.exec = Jvm.exec) (hb : c.code = cc) (hts : ∀ w ∈ ub_T, w.before args s = true) (hown : s.vm.findClass rfR_Md = some m.cls) (hK : ub_K D k s) (hP : rf_P D a k σ H) (hAd : rf_Ad a) (hS : va_S (rf_A a) H0 H locs) (hdg : decode cc pc = .ok (.putfield 68, 3))
    (kk : ∀ (H1 : Heap) (locs1 : List Loc), rf_P D a k (wr σ 18 1 v) H1 → va_S (rf_A a) H0 H1 locs1 → W p l e R s m args below meth c H1 locs1 cells slots Q (F0 m (pc + 3) ls rest)) : W p l e R s m args below meth c H locs cells slots Q (F0 m pc ls (.int v :: .ref (a 0) :: rest)) :=
  va_put (D := D) (ci := 4) (v := .int v) (ty := .int) (C := rfR_Md) (T := rfF_Md) (N := 25) hx hb hts rfi_Md rft_Md rfto_Md rfn_Md hown hK hP (rf_D hAd) hS 0 rfl rfl 1 (by decide) (hts _ ubw_405) (fun _ h => h) rfl (by decide +kernel) rfl rfl (Nat.le_of_ble_eq_true rfl) hdg (fun H1 locs1 hP1 _ hS1 => kk H1 locs1 (by
    rw [rf_set0 (τ := wr σ 18 1 v) (by decide) (fun i hi => wr_ne (by omega)) ?_] at hP1
    · exact hP1
    · unfold rf_X
      skip
      rfl) hS1)
theorem rfp_Md_71 {v : Int32} (hx : p.tables.exec = Jvm.exec) (hb : c.code = cc) (hts : ∀ w ∈ ub_T, w.before args s = true) (hown : s.vm.findClass rfR_Md = some m.cls) (hK : ub_K D k s) (hP : rf_P D a k σ H) (hAd : rf_Ad a) (hS : va_S (rf_A a) H0 H locs) (hdg : decode cc pc = .ok (.putfield 71, 3))
    (kk : ∀ (H1 : Heap) (locs1 : List Loc), rf_P D a k (wr σ 18 3 v) H1 → va_S (rf_A a) H0 H1 locs1 → W p l e R s m args below meth c H1 locs1 cells slots Q (F0 m (pc + 3) ls rest)) : W p l e R s m args below meth c H locs cells slots Q (F0 m pc ls (.int v :: .ref (a 0) :: rest)) :=
  va_put (D := D) (ci := 4) (v := .int v) (ty := .int) (C := rfR_Md) (T := rfF_Md) (N := 25) hx hb hts rfi_Md rft_Md rfto_Md rfn_Md hown hK hP (rf_D hAd) hS 0 rfl rfl 3 (by decide) (hts _ ubw_407) (fun _ h => h) rfl (by decide +kernel) rfl rfl (Nat.le_of_ble_eq_true rfl) hdg (fun H1 locs1 hP1 _ hS1 => kk H1 locs1 (by
    rw [rf_set0 (τ := wr σ 18 3 v) (by decide) (fun i hi => wr_ne (by omega)) ?_] at hP1
    · exact hP1
    · unfold rf_X
      skip
      rfl) hS1)
theorem rfp_Md_99 {v : Int32} (hx : p.tables.exec = Jvm.exec) (hb : c.code = cc) (hts : ∀ w ∈ ub_T, w.before args s = true) (hown : s.vm.findClass rfR_Md = some m.cls) (hK : ub_K D k s) (hP : rf_P D a k σ H) (hAd : rf_Ad a) (hS : va_S (rf_A a) H0 H locs) (hdg : decode cc pc = .ok (.putfield 99, 3))
    (kk : ∀ (H1 : Heap) (locs1 : List Loc), rf_P D a k (wr σ 18 6 v) H1 → va_S (rf_A a) H0 H1 locs1 → W p l e R s m args below meth c H1 locs1 cells slots Q (F0 m (pc + 3) ls rest)) : W p l e R s m args below meth c H locs cells slots Q (F0 m pc ls (.int v :: .ref (a 0) :: rest)) :=
  va_put (D := D) (ci := 4) (v := .int v) (ty := .int) (C := rfR_Md) (T := rfF_Md) (N := 25) hx hb hts rfi_Md rft_Md rfto_Md rfn_Md hown hK hP (rf_D hAd) hS 0 rfl rfl 18 (by decide) (hts _ ubw_422) (fun _ h => h) rfl (by decide +kernel) rfl rfl (Nat.le_of_ble_eq_true rfl) hdg (fun H1 locs1 hP1 _ hS1 => kk H1 locs1 (by
    rw [rf_set0 (τ := wr σ 18 6 v) (by decide) (fun i hi => wr_ne (by omega)) ?_] at hP1
    · exact hP1
    · unfold rf_X
      skip
      rfl) hS1)
theorem rfp_Md_106 {v : Int32} (hx : p.tables.exec = Jvm.exec) (hb : c.code = cc) (hts : ∀ w ∈ ub_T, w.before args s = true) (hown : s.vm.findClass rfR_Md = some m.cls) (hK : ub_K D k s) (hP : rf_P D a k σ H) (hAd : rf_Ad a) (hS : va_S (rf_A a) H0 H locs) (hdg : decode cc pc = .ok (.putfield 106, 3))
    (kk : ∀ (H1 : Heap) (locs1 : List Loc), rf_P D a k (wr σ 18 2 v) H1 → va_S (rf_A a) H0 H1 locs1 → W p l e R s m args below meth c H1 locs1 cells slots Q (F0 m (pc + 3) ls rest)) : W p l e R s m args below meth c H locs cells slots Q (F0 m pc ls (.int v :: .ref (a 0) :: rest)) :=
  va_put (D := D) (ci := 4) (v := .int v) (ty := .int) (C := rfR_Md) (T := rfF_Md) (N := 25) hx hb hts rfi_Md rft_Md rfto_Md rfn_Md hown hK hP (rf_D hAd) hS 0 rfl rfl 2 (by decide) (hts _ ubw_406) (fun _ h => h) rfl (by decide +kernel) rfl rfl (Nat.le_of_ble_eq_true rfl) hdg (fun H1 locs1 hP1 _ hS1 => kk H1 locs1 (by
    rw [rf_set0 (τ := wr σ 18 2 v) (by decide) (fun i hi => wr_ne (by omega)) ?_] at hP1
    · exact hP1
    · unfold rf_X
      skip
      rfl) hS1)
theorem rfp_Md_113 {v : Int32} (hx : p.tables.exec = Jvm.exec) (hb : c.code = cc) (hts : ∀ w ∈ ub_T, w.before args s = true) (hown : s.vm.findClass rfR_Md = some m.cls) (hK : ub_K D k s) (hP : rf_P D a k σ H) (hAd : rf_Ad a) (hS : va_S (rf_A a) H0 H locs) (hdg : decode cc pc = .ok (.putfield 113, 3))
    (kk : ∀ (H1 : Heap) (locs1 : List Loc), rf_P D a k (wr σ 18 4 v) H1 → va_S (rf_A a) H0 H1 locs1 → W p l e R s m args below meth c H1 locs1 cells slots Q (F0 m (pc + 3) ls rest)) : W p l e R s m args below meth c H locs cells slots Q (F0 m pc ls (.int v :: .ref (a 0) :: rest)) :=
  va_put (D := D) (ci := 4) (v := .int v) (ty := .int) (C := rfR_Md) (T := rfF_Md) (N := 25) hx hb hts rfi_Md rft_Md rfto_Md rfn_Md hown hK hP (rf_D hAd) hS 0 rfl rfl 4 (by decide) (hts _ ubw_408) (fun _ h => h) rfl (by decide +kernel) rfl rfl (Nat.le_of_ble_eq_true rfl) hdg (fun H1 locs1 hP1 _ hS1 => kk H1 locs1 (by
    rw [rf_set0 (τ := wr σ 18 4 v) (by decide) (fun i hi => wr_ne (by omega)) ?_] at hP1
    · exact hP1
    · unfold rf_X
      skip
      rfl) hS1)
theorem rfp_Md_133 {v : Int32} (hx : p.tables.exec = Jvm.exec) (hb : c.code = cc) (hts : ∀ w ∈ ub_T, w.before args s = true) (hown : s.vm.findClass rfR_Md = some m.cls) (hK : ub_K D k s) (hP : rf_P D a k σ H) (hAd : rf_Ad a) (hS : va_S (rf_A a) H0 H locs) (hdg : decode cc pc = .ok (.putfield 133, 3))
    (kk : ∀ (H1 : Heap) (locs1 : List Loc), rf_P D a k (wr σ 18 5 v) H1 → va_S (rf_A a) H0 H1 locs1 → W p l e R s m args below meth c H1 locs1 cells slots Q (F0 m (pc + 3) ls rest)) : W p l e R s m args below meth c H locs cells slots Q (F0 m pc ls (.int v :: .ref (a 0) :: rest)) :=
  va_put (D := D) (ci := 4) (v := .int v) (ty := .int) (C := rfR_Md) (T := rfF_Md) (N := 25) hx hb hts rfi_Md rft_Md rfto_Md rfn_Md hown hK hP (rf_D hAd) hS 0 rfl rfl 5 (by decide) (hts _ ubw_409) (fun _ h => h) rfl (by decide +kernel) rfl rfl (Nat.le_of_ble_eq_true rfl) hdg (fun H1 locs1 hP1 _ hS1 => kk H1 locs1 (by
    rw [rf_set0 (τ := wr σ 18 5 v) (by decide) (fun i hi => wr_ne (by omega)) ?_] at hP1
    · exact hP1
    · unfold rf_X
      skip
      rfl) hS1)
end rfROWS
end
section
def urf_Rb_isRepository (σ : ST) (x0 : Int32) : Option (Int32) :=
  if x0 < 0 then
    some 0
  else
    if 3 ≤ x0 then
      some 0
    else
      some 1
def urf_Nm_add (σ : ST) (x1 : Int32) : Option (Int32 × ST) :=
  if (σ 111 3) < 12 then
    if ub_in (σ 111 3) 12 then
    if ub_in (σ 111 3) 12 then
    if ub_in (σ 111 3) 12 then
    if ub_in (σ 111 3) 12 then
    if ub_in (σ 111 3) 12 then
    if ub_in (σ 111 3) 12 then
    if ub_in (σ 111 3) 12 then
    if ub_in (σ 111 3) 12 then
    if ub_in (σ 111 3) 12 then
    if ub_in 0 8 then
    some ((σ 111 3), (wr (wr (wr (wr (wr (wr (wr (wr (wr (wr σ 111 3 ((σ 111 3) + 1)) 0 (σ 111 3).toNatClampNeg x1) 1 (σ 111 3).toNatClampNeg 1) 2 (σ 111 3).toNatClampNeg 0) 3 (σ 111 3).toNatClampNeg 2) 4 (σ 111 3).toNatClampNeg 1) 5 (σ 111 3).toNatClampNeg (-1)) 6 (σ 111 3).toNatClampNeg (-1)) 7 (σ 111 3).toNatClampNeg (-1)) ((σ 111 3).toNatClampNeg + 26) ((0 : Int32).toNatClampNeg) (-1)))
    else none
    else none
    else none
    else none
    else none
    else none
    else none
    else none
    else none
    else none
  else
    some ((-1), σ)
def urf_Rb_name (σ : ST) (x1 : Int32) : Option (Int32 × ST) :=
  Option.bind (urf_Rb_isRepository σ x1) (fun q1 =>
  if q1 = 0 then
    some ((-1), σ)
  else
    Option.bind (urf_Nm_add σ x1) (fun q3 =>
    some (q3.1, q3.2)))
def urf_Nm_isKnown (σ : ST) (x1 : Int32) : Option (Int32) :=
  if x1 < 0 then
    some 0
  else
    if (σ 111 3) ≤ x1 then
      some 0
    else
      some 1
def urf_Nm_addVersion (σ : ST) (x1 : Int32) (x2 : Int32) : Option (Int32 × ST) :=
  if ub_in x1 12 then
  if (σ 1 x1.toNatClampNeg) < 8 then
    if ub_in x1 12 then
    if ub_in x1 12 then
    if ub_in x1 12 then
    if ub_in (σ 1 x1.toNatClampNeg) 8 then
    if ub_in x1 12 then
    if ub_in (σ 1 x1.toNatClampNeg) 8 then
    some ((σ 1 x1.toNatClampNeg), (wr (wr (wr σ 1 x1.toNatClampNeg ((σ 1 x1.toNatClampNeg) + 1)) (x1.toNatClampNeg + 14) (σ 1 x1.toNatClampNeg).toNatClampNeg x2) (x1.toNatClampNeg + 26) (σ 1 x1.toNatClampNeg).toNatClampNeg (-1)))
    else none
    else none
    else none
    else none
    else none
    else none
  else
    some ((-1), σ)
  else none
def urf_Rb_newer (σ : ST) (x1 : Int32) (x2 : Int32) : Option (Int32 × ST) :=
  Option.bind (urf_Nm_isKnown σ x1) (fun q1 =>
  if q1 = 0 then
    some ((-1), σ)
  else
    if x2 < 0 then
      some ((-1), σ)
    else
      if x2 < 3 then
        Option.bind (urf_Nm_addVersion σ x1 x2) (fun q5 =>
        some (q5.1, q5.2))
      else
        some ((-1), σ))
def urf_Nm_hasVersion (σ : ST) (x1 : Int32) (x2 : Int32) : Option (Int32) :=
  Option.bind (urf_Nm_isKnown σ x1) (fun q1 =>
  if q1 = 0 then
    some 0
  else
    if x2 < 0 then
      some 0
    else
      if ub_in x1 12 then
      if (σ 1 x1.toNatClampNeg) ≤ x2 then
        some 0
      else
        some 1
      else none)
def urj_Rb_needs_28 (σ : ST) (y1 : Int32) (y2 : Int32) (y3 : Int32) (y4 : Int32) : Option (Int32 × ST) :=
    some (0, σ)
def urf_Rb_needs (σ : ST) (x1 : Int32) (x2 : Int32) (x3 : Int32) (x4 : Int32) : Option (Int32 × ST) :=
  Option.bind (urf_Nm_hasVersion σ x1 x2) (fun q1 =>
  if q1 = 0 then
    urj_Rb_needs_28 σ x1 x2 x3 x4
  else
    Option.bind (urf_Nm_isKnown σ x3) (fun q3 =>
    if q3 = 0 then
      urj_Rb_needs_28 σ x1 x2 x3 x4
    else
      if x1 = x3 then
        urj_Rb_needs_28 σ x1 x2 x3 x4
      else
        if x4 < 0 then
          some (0, σ)
        else
          if x4 < 8 then
            if ub_in x1 12 then
            if ub_in x2 8 then
            if ub_in x1 12 then
            if ub_in x2 8 then
            some (1, (wr (wr σ (x1.toNatClampNeg + 26) x2.toNatClampNeg x3) (x1.toNatClampNeg + 38) x2.toNatClampNeg x4))
            else none
            else none
            else none
            else none
          else
            some (0, σ)))
def urj_Rb_rule_21 (σ : ST) (y1 : Int32) (y2 : Int32) (y3 : Int32) (y4 : Int32) : Option (Int32 × ST) :=
    some (0, σ)
def urj_Rb_rule_47 (σ : ST) (y1 : Int32) (y2 : Int32) (y3 : Int32) (y4 : Int32) : Option (Int32 × ST) :=
    some (0, σ)
def urf_Rb_rule (σ : ST) (x1 : Int32) (x2 : Int32) (x3 : Int32) (x4 : Int32) : Option (Int32 × ST) :=
  Option.bind (urf_Nm_isKnown σ x1) (fun q1 =>
  if q1 = 0 then
    urj_Rb_rule_21 σ x1 x2 x3 x4
  else
    if x2 < (-1) then
      urj_Rb_rule_21 σ x1 x2 x3 x4
    else
      if x2 < 3 then
        if x3 < 1 then
          urj_Rb_rule_47 σ x1 x2 x3 x4
        else
          if 1000 < x3 then
            urj_Rb_rule_47 σ x1 x2 x3 x4
          else
            if x4 < (-1) then
              urj_Rb_rule_47 σ x1 x2 x3 x4
            else
              if x4 < 4 then
                if ub_in x1 12 then
                if ub_in x1 12 then
                if ub_in x1 12 then
                some (1, (wr (wr (wr σ 3 x1.toNatClampNeg x2) 4 x1.toNatClampNeg x3) 5 x1.toNatClampNeg x4))
                else none
                else none
                else none
              else
                urj_Rb_rule_47 σ x1 x2 x3 x4
      else
        urj_Rb_rule_21 σ x1 x2 x3 x4)
def urf_Rb_advise (σ : ST) (x1 : Int32) (x2 : Int32) : Option (Int32 × ST) :=
  Option.bind (urf_Nm_isKnown σ x1) (fun q1 =>
  if q1 = 0 then
    some (0, σ)
  else
    if x2 = (-1) then
      if ub_in x1 12 then
      some (1, (wr σ 6 x1.toNatClampNeg x2))
      else none
    else
      Option.bind (urf_Nm_hasVersion σ x1 x2) (fun q5 =>
      if q5 = 0 then
        some (0, σ)
      else
        if ub_in x1 12 then
        some (1, (wr σ 6 x1.toNatClampNeg x2))
        else none))
def urf_Rb_has (σ : ST) (x1 : Int32) : Option (Int32) :=
  Option.bind (urf_Nm_isKnown σ x1) (fun q1 =>
  if q1 = 0 then
    some (-1)
  else
    if ub_in x1 12 then
    some (σ 2 x1.toNatClampNeg)
    else none)
def url_Nm_farthestAllowed_11 (σ : ST) : Nat → Int32 → Int32 → Int32 → Option (Int32)
  | 0, _, _, _ => none
  | n + 1, y1, y2, y3 =>
      if ub_in y1 12 then
      if (σ 1 y1.toNatClampNeg) ≤ y3 then
        some y2
      else
        if ub_in y1 12 then
        if ub_in y3 8 then
        if ub_in y1 12 then
        if (σ 3 y1.toNatClampNeg) < (σ (y1.toNatClampNeg + 14) y3.toNatClampNeg) then
          some y2
        else
          url_Nm_farthestAllowed_11 σ n y1 y3 (y3 + 1)
        else none
        else none
        else none
      else none
def urf_Nm_farthestAllowed (σ : ST) (x1 : Int32) : Option (Int32) :=
  if ub_in x1 12 then
  url_Nm_farthestAllowed_11 σ 200 x1 (σ 2 x1.toNatClampNeg) ((σ 2 x1.toNatClampNeg) + 1)
  else none
def urf_Nm_isHit (σ : ST) (x1 : Int32) : Option (Int32) :=
  if ub_in x1 12 then
  if (σ 6 x1.toNatClampNeg) = (-1) then
    some 0
  else
    if ub_in x1 12 then
    if ub_in x1 12 then
    if (σ 6 x1.toNatClampNeg) < (σ 2 x1.toNatClampNeg) then
      some 0
    else
      some 1
    else none
    else none
  else none
def urf_Nm_goalOf (σ : ST) (x1 : Int32) : Option (Int32) :=
  Option.bind (urf_Nm_farthestAllowed σ x1) (fun q1 =>
  Option.bind (urf_Nm_isHit σ x1) (fun q2 =>
  if q2 = 0 then
    some q1
  else
    if ub_in x1 12 then
    if q1 ≤ (σ 6 x1.toNatClampNeg) then
      if ub_in x1 12 then
      if ub_in x1 12 then
      if (σ 1 x1.toNatClampNeg) ≤ ((σ 6 x1.toNatClampNeg) + 1) then
        some q1
      else
        some ((σ 6 x1.toNatClampNeg) + 1)
      else none
      else none
    else
      some q1
    else none))
def urf_Rb_goal (σ : ST) (x1 : Int32) : Option (Int32) :=
  Option.bind (urf_Nm_isKnown σ x1) (fun q1 =>
  if q1 = 0 then
    some (-1)
  else
    Option.bind (urf_Nm_goalOf σ x1) (fun q3 =>
    some q3))
def url_Nm_chiefOf_14 (σ : ST) : Nat → Int32 → Int32 → Option (Int32)
  | 0, _, _ => none
  | n + 1, y1, y2 =>
      if y1 ≤ y2 then
        some y1
      else
        if ub_in y2 12 then
        if ub_in y1 12 then
        if (σ 0 y2.toNatClampNeg) = (σ 0 y1.toNatClampNeg) then
          if ub_in y2 12 then
          if ub_in y1 12 then
          if (σ 5 y2.toNatClampNeg) = (σ 5 y1.toNatClampNeg) then
            some y2
          else
            url_Nm_chiefOf_14 σ n y1 (y2 + 1)
          else none
          else none
        else
          url_Nm_chiefOf_14 σ n y1 (y2 + 1)
        else none
        else none
def urf_Nm_chiefOf (σ : ST) (x1 : Int32) : Option (Int32) :=
  if ub_in x1 12 then
  if (σ 5 x1.toNatClampNeg) = (-1) then
    some x1
  else
    url_Nm_chiefOf_14 σ 200 x1 0
  else none
def urf_Rb_chief (σ : ST) (x1 : Int32) : Option (Int32) :=
  Option.bind (urf_Nm_isKnown σ x1) (fun q1 =>
  if q1 = 0 then
    some (-1)
  else
    Option.bind (urf_Nm_chiefOf σ x1) (fun q3 =>
    some q3))
def urf_Nm_isChief (σ : ST) (x1 : Int32) : Option (Int32) :=
  Option.bind (urf_Nm_isKnown σ x1) (fun q1 =>
  if q1 = 0 then
    some 0
  else
    Option.bind (urf_Nm_chiefOf σ x1) (fun q3 =>
    if q3 = x1 then
      some 1
    else
      some 0))
def url_So_setOut_2 : Nat → ST → Int32 → Int32 → Option (ST)
  | 0, _, _, _ => none
  | n + 1, σ, y2, y3 =>
      if (σ 111 3) ≤ y3 then
        some σ
      else
        Option.bind (urf_Nm_chiefOf σ y3) (fun q2 =>
        if q2 = y2 then
          Option.bind (urf_Nm_goalOf σ y3) (fun q6 =>
          if ub_in y3 12 then
          url_So_setOut_2 n (wr σ 8 y3.toNatClampNeg q6) y2 (y3 + 1)
          else none)
        else
          if ub_in y3 12 then
          if ub_in y3 12 then
          url_So_setOut_2 n (wr σ 8 y3.toNatClampNeg (σ 2 y3.toNatClampNeg)) y2 (y3 + 1)
          else none
          else none)
def urf_So_setOut (σ : ST) (x2 : Int32) : Option (ST) :=
  url_So_setOut_2 200 σ x2 0
def urf_So_lacksAtTarget (σ : ST) (x2 : Int32) : Option (Int32) :=
  if ub_in x2 12 then
  Option.bind (urf_Nm_hasVersion σ x2 (σ 8 x2.toNatClampNeg)) (fun q2 =>
  if q2 = 0 then
    some 0
  else
    if ub_in x2 12 then
    if ub_in (σ 8 x2.toNatClampNeg) 8 then
    Option.bind (urf_Nm_isKnown σ (σ (x2.toNatClampNeg + 26) (σ 8 x2.toNatClampNeg).toNatClampNeg)) (fun q6 =>
    if q6 = 0 then
      some 0
    else
      if ub_in x2 12 then
      if ub_in (σ 8 x2.toNatClampNeg) 8 then
      if ub_in (σ (x2.toNatClampNeg + 26) (σ 8 x2.toNatClampNeg).toNatClampNeg) 12 then
      if (σ (x2.toNatClampNeg + 38) (σ 8 x2.toNatClampNeg).toNatClampNeg) ≤ (σ 8 (σ (x2.toNatClampNeg + 26) (σ 8 x2.toNatClampNeg).toNatClampNeg).toNatClampNeg) then
        some 0
      else
        some 1
      else none
      else none
      else none)
    else none
    else none)
  else none
def url_So_firstNeedy_2 (σ : ST) : Nat → Int32 → Option (Int32)
  | 0, _ => none
  | n + 1, y2 =>
      if (σ 111 3) ≤ y2 then
        some (-1)
      else
        if ub_in y2 12 then
        if ub_in y2 12 then
        if (σ 8 y2.toNatClampNeg) ≤ (σ 2 y2.toNatClampNeg) then
          url_So_firstNeedy_2 σ n (y2 + 1)
        else
          Option.bind (urf_So_lacksAtTarget σ y2) (fun q5 =>
          if q5 = 0 then
            url_So_firstNeedy_2 σ n (y2 + 1)
          else
            some y2)
        else none
        else none
def urf_So_firstNeedy (σ : ST)  : Option (Int32) :=
  url_So_firstNeedy_2 σ 200 0
def url_So_keepRaised_4 : Nat → ST → Int32 → Int32 → Option (Int32 × ST)
  | 0, _, _, _ => none
  | n + 1, σ, y2, y3 =>
      if 12 ≤ y3 then
        some (y2, σ)
      else
        if ub_in y3 12 then
        if (σ 111 3) ≤ y3 then
          url_So_keepRaised_4 n (wr σ 9 y3.toNatClampNeg (-1)) y2 (y3 + 1)
        else
          if ub_in y3 12 then
          if ub_in y3 12 then
          if (σ 8 y3.toNatClampNeg) ≤ (σ 2 y3.toNatClampNeg) then
            url_So_keepRaised_4 n (wr σ 9 y3.toNatClampNeg (-1)) y2 (y3 + 1)
          else
            if ub_in y3 12 then
            if ub_in y3 12 then
            url_So_keepRaised_4 n (wr (wr σ 9 y3.toNatClampNeg (-1)) 9 y3.toNatClampNeg (σ 8 y3.toNatClampNeg)) (y2 + 1) (y3 + 1)
            else none
            else none
          else none
          else none
        else none
def urf_So_keepRaised (σ : ST)  : Option (Int32 × ST) :=
  url_So_keepRaised_4 200 σ 0 0
def url_So_solveUnit_8 : Nat → ST → Int32 → Int32 → Option (Int32 × ST)
  | 0, _, _, _ => none
  | n + 1, σ, y2, y3 =>
      if 96 ≤ y3 then
        Option.bind (urf_So_keepRaised σ ) (fun q3 =>
        some (q3.1, q3.2))
      else
        Option.bind (urf_So_firstNeedy σ ) (fun q4 =>
        if q4 = (-1) then
          Option.bind (urf_So_keepRaised σ ) (fun q15 =>
          some (q15.1, q15.2))
        else
          if ub_in q4 12 then
          if ub_in q4 12 then
          if ub_in (σ 8 q4.toNatClampNeg) 8 then
          if ub_in q4 12 then
          if ub_in q4 12 then
          if ub_in (σ 8 q4.toNatClampNeg) 8 then
          Option.bind (urf_Nm_farthestAllowed σ (σ (q4.toNatClampNeg + 26) (σ 8 q4.toNatClampNeg).toNatClampNeg)) (fun q12 =>
          if (σ (q4.toNatClampNeg + 38) (σ 8 q4.toNatClampNeg).toNatClampNeg) ≤ q12 then
            if ub_in (σ (q4.toNatClampNeg + 26) (σ 8 q4.toNatClampNeg).toNatClampNeg) 12 then
            url_So_solveUnit_8 n (wr σ 8 (σ (q4.toNatClampNeg + 26) (σ 8 q4.toNatClampNeg).toNatClampNeg).toNatClampNeg (σ (q4.toNatClampNeg + 38) (σ 8 q4.toNatClampNeg).toNatClampNeg)) y2 (y3 + 1)
            else none
          else
            some (((-2) - (σ (q4.toNatClampNeg + 26) (σ 8 q4.toNatClampNeg).toNatClampNeg)), σ))
          else none
          else none
          else none
          else none
          else none
          else none)
def urf_So_solveUnit (σ : ST) (x2 : Int32) : Option (Int32 × ST) :=
  Option.bind (urf_So_setOut σ x2) (fun q1 =>
  url_So_solveUnit_8 200 q1 x2 0)
def urf_Rb_solve (σ : ST) (x1 : Int32) : Option (Int32 × ST) :=
  Option.bind (urf_Nm_isChief σ x1) (fun q1 =>
  if q1 = 0 then
    some ((-1), σ)
  else
    Option.bind (urf_So_solveUnit σ x1) (fun q3 =>
    some (q3.1, q3.2)))
def urf_Rb_tick (σ : ST) (x1 : Int32) : Option (Int32 × ST) :=
  if x1 < 0 then
    some ((-1), σ)
  else
    if 100000 < x1 then
      some ((-1), σ)
    else
      if x1 ≤ (1000000000 - (σ 111 1)) then
        some (((σ 111 1) + x1), (wr σ 111 1 ((σ 111 1) + x1)))
      else
        some ((-1), σ)
def url_Nm_isUnitHit_2 (σ : ST) : Nat → Int32 → Int32 → Option (Int32)
  | 0, _, _ => none
  | n + 1, y1, y2 =>
      if (σ 111 3) ≤ y2 then
        some 0
      else
        Option.bind (urf_Nm_isHit σ y2) (fun q2 =>
        if q2 = 0 then
          url_Nm_isUnitHit_2 σ n y1 (y2 + 1)
        else
          Option.bind (urf_Nm_chiefOf σ y2) (fun q4 =>
          if q4 = y1 then
            some 1
          else
            url_Nm_isUnitHit_2 σ n y1 (y2 + 1)))
def urf_Nm_isUnitHit (σ : ST) (x1 : Int32) : Option (Int32) :=
  url_Nm_isUnitHit_2 σ 200 x1 0
def url_Nm_leastEvery_6 (σ : ST) : Nat → Int32 → Int32 → Int32 → Option (Int32)
  | 0, _, _, _ => none
  | n + 1, y1, y2, y3 =>
      if (σ 111 3) ≤ y3 then
        some y2
      else
        Option.bind (urf_Nm_chiefOf σ y3) (fun q2 =>
        if q2 = y1 then
          if ub_in y3 12 then
          url_Nm_leastEvery_6 σ n y1 (if (σ 4 y3.toNatClampNeg) < y2 then (σ 4 y3.toNatClampNeg) else y2) (y3 + 1)
          else none
        else
          url_Nm_leastEvery_6 σ n y1 y2 (y3 + 1))
def urf_Nm_leastEvery (σ : ST) (x1 : Int32) : Option (Int32) :=
  url_Nm_leastEvery_6 σ 200 x1 1000 0
def urf_Rb_isDue (σ : ST) (x1 : Int32) : Option (Int32) :=
  if ub_in x1 12 then
  if (σ 7 x1.toNatClampNeg) = (-1) then
    some 1
  else
    Option.bind (urf_Nm_isUnitHit σ x1) (fun q3 =>
    if q3 = 0 then
      Option.bind (urf_Nm_leastEvery σ x1) (fun q5 =>
      if ((σ 111 1) - (σ 7 x1.toNatClampNeg)) < q5 then
        some 0
      else
        some 1)
    else
      some 1)
  else none
def url_Pr_latestOf_7 (σ : ST) : Nat → Int32 → Int32 → Int32 → Option (Int32)
  | 0, _, _, _ => none
  | n + 1, y1, y2, y3 =>
      if y3 < 0 then
        some (-1)
      else
        if ub_in y3 60 then
        if (σ 11 y3.toNatClampNeg) = y1 then
          if ub_in y3 60 then
          if (σ 10 y3.toNatClampNeg) = y2 then
            some y3
          else
            url_Pr_latestOf_7 σ n y1 y2 (y3 + (-1))
          else none
        else
          url_Pr_latestOf_7 σ n y1 y2 (y3 + (-1))
        else none
def urf_Pr_latestOf (σ : ST) (x1 : Int32) (x2 : Int32) : Option (Int32) :=
  url_Pr_latestOf_7 σ 200 x1 x2 ((σ 111 4) - 1)
def urf_Pr_openOf (σ : ST) (x1 : Int32) : Option (Int32) :=
  Option.bind (urf_Pr_latestOf σ x1 0) (fun q1 =>
  some q1)
def urf_Pr_isKnown (σ : ST) (x1 : Int32) : Option (Int32) :=
  if x1 < 0 then
    some 0
  else
    if (σ 111 4) ≤ x1 then
      some 0
    else
      some 1
def urf_Pr_closeIfAny (σ : ST) (x1 : Int32) (x2 : Int32) : Option (ST) :=
  Option.bind (urf_Pr_isKnown σ x1) (fun q1 =>
  if q1 = 0 then
    some σ
  else
    if ub_in x1 60 then
    some (wr σ 10 x1.toNatClampNeg x2)
    else none)
def url_Pr_raisesJust_12 (σ : ST) (k2 : Nat) : Nat → Int32 → Int32 → Option (Int32)
  | 0, _, _ => none
  | n + 1, y1, y3 =>
      if 12 ≤ y3 then
        some 1
      else
        if (nI (ur_len k2)) ≤ y3 then
          some 1
        else
          if ub_in y1 60 then
          if ub_in y3 12 then
          if ub_in y3 (ur_len k2) then
          if (σ (y1.toNatClampNeg + 50) y3.toNatClampNeg) = (σ k2 y3.toNatClampNeg) then
            url_Pr_raisesJust_12 σ k2 n y1 (y3 + 1)
          else
            some 0
          else none
          else none
          else none
def urf_Pr_raisesJust (σ : ST) (x1 : Int32) (k2 : Nat) : Option (Int32) :=
  Option.bind (urf_Pr_isKnown σ x1) (fun q1 =>
  if q1 = 0 then
    some 0
  else
    url_Pr_raisesJust_12 σ k2 200 x1 0)
def urf_Pr_latestFailedOf (σ : ST) (x1 : Int32) : Option (Int32) :=
  Option.bind (urf_Pr_latestOf σ x1 4) (fun q1 =>
  some q1)
def urf_Pr_isFull (σ : ST)  : Option (Int32) :=
  if (σ 111 4) < 60 then
    some 0
  else
    some 1
def urf_Pr_isOpen (σ : ST) (x1 : Int32) : Option (Int32) :=
  Option.bind (urf_Pr_isKnown σ x1) (fun q1 =>
  if q1 = 0 then
    some 0
  else
    if ub_in x1 60 then
    if (σ 10 x1.toNatClampNeg) = 0 then
      some 1
    else
      some 0
    else none)
def url_Rb_openIn_4 (σ : ST) : Nat → Int32 → Int32 → Int32 → Option (Int32)
  | 0, _, _, _ => none
  | n + 1, y1, y2, y3 =>
      if (σ 111 4) ≤ y3 then
        some y2
      else
        Option.bind (urf_Pr_isOpen σ y3) (fun q2 =>
        if q2 = 0 then
          url_Rb_openIn_4 σ n y1 y2 (y3 + 1)
        else
          if ub_in y3 60 then
          if ub_in (σ 11 y3.toNatClampNeg) 12 then
          if (σ 0 (σ 11 y3.toNatClampNeg).toNatClampNeg) = y1 then
            url_Rb_openIn_4 σ n y1 (y2 + 1) (y3 + 1)
          else
            url_Rb_openIn_4 σ n y1 y2 (y3 + 1)
          else none
          else none)
def urf_Rb_openIn (σ : ST) (x1 : Int32) : Option (Int32) :=
  url_Rb_openIn_4 σ 200 x1 0 0
def urf_Rb_mayOpen (σ : ST) (x1 : Int32) (x2 : Int32) : Option (Int32) :=
  Option.bind (urf_Pr_isFull σ ) (fun q1 =>
  if q1 = 0 then
    if x2 = (-1) then
      Option.bind (urf_Nm_isUnitHit σ x1) (fun q4 =>
      if q4 = 0 then
        if ub_in x1 12 then
        Option.bind (urf_Rb_openIn σ (σ 0 x1.toNatClampNeg)) (fun q7 =>
        if (σ 111 0) ≤ q7 then
          some 0
        else
          some 1)
        else none
      else
        some 1)
    else
      some 1
  else
    some 0)
def url_Pr_setRaised_2 (k2 : Nat) : Nat → ST → Int32 → Int32 → Option (ST)
  | 0, _, _, _ => none
  | n + 1, σ, y1, y3 =>
      if 12 ≤ y3 then
        some σ
      else
        if (nI (ur_len k2)) ≤ y3 then
          some σ
        else
          if ub_in y1 60 then
          if ub_in y3 (ur_len k2) then
          if ub_in y3 12 then
          url_Pr_setRaised_2 k2 n (wr σ (y1.toNatClampNeg + 50) y3.toNatClampNeg (σ k2 y3.toNatClampNeg)) y1 (y3 + 1)
          else none
          else none
          else none
def urf_Pr_setRaised (σ : ST) (x1 : Int32) (k2 : Nat) : Option (ST) :=
  url_Pr_setRaised_2 k2 200 σ x1 0
def urf_Pr_add (σ : ST) (x1 : Int32) (x2 : Int32) (x3 : Int32) (k4 : Nat) : Option (ST) :=
  Option.bind (urf_Pr_isFull σ ) (fun q1 =>
  if q1 = 0 then
    if ub_in (σ 111 4) 60 then
    if ub_in (σ 111 4) 60 then
    if ub_in (σ 111 4) 60 then
    if ub_in (σ 111 4) 60 then
    if ub_in (σ 111 4) 60 then
    Option.bind (urf_Pr_setRaised (wr (wr (wr (wr (wr (wr σ 111 4 ((σ 111 4) + 1)) 10 (σ 111 4).toNatClampNeg 0) 11 (σ 111 4).toNatClampNeg x1) 12 (σ 111 4).toNatClampNeg 0) 13 (σ 111 4).toNatClampNeg x2) 110 (σ 111 4).toNatClampNeg (vp_nar .boolean x3)) (σ 111 4) k4) (fun q8 =>
    some q8)
    else none
    else none
    else none
    else none
    else none
  else
    some σ)
def urf_Rb_review (σ : ST) (x1 : Int32) : Option (ST) :=
  Option.bind (urf_Pr_openOf σ x1) (fun q1 =>
  Option.bind (urf_So_solveUnit σ x1) (fun q2 =>
  if 0 < q2.1 then
    Option.bind (urf_Pr_raisesJust q2.2 q1 9) (fun q4 =>
    if q4 = 0 then
      Option.bind (urf_Pr_latestFailedOf q2.2 x1) (fun q6 =>
      Option.bind (urf_Pr_raisesJust q2.2 q6 9) (fun q7 =>
      if q7 = 0 then
        Option.bind (urf_Rb_mayOpen q2.2 x1 q1) (fun q9 =>
        if q9 = 0 then
          some (wr q2.2 111 2 ((q2.2 111 2) + 1))
        else
          Option.bind (urf_Pr_closeIfAny q2.2 q1 2) (fun q11 =>
          Option.bind (urf_Nm_isUnitHit q11 x1) (fun q12 =>
          Option.bind (urf_Pr_add q11 x1 (q11 111 1) q12 9) (fun q13 =>
          some q13))))
      else
        Option.bind (urf_Pr_closeIfAny q2.2 q1 3) (fun q14 =>
        some q14)))
    else
      some q2.2)
  else
    Option.bind (urf_Pr_closeIfAny q2.2 q1 3) (fun q15 =>
    some q15)))
def url_Rb_run_15 : Nat → ST → Int32 → Int32 → Option (Int32 × ST)
  | 0, _, _, _ => none
  | n + 1, σ, y1, y2 =>
      if (σ 111 3) ≤ y2 then
        some (((σ 111 4) - y1), σ)
      else
        Option.bind (urf_Nm_isChief σ y2) (fun q2 =>
        if q2 = 0 then
          url_Rb_run_15 n σ y1 (y2 + 1)
        else
          Option.bind (urf_Rb_isDue σ y2) (fun q4 =>
          if q4 = 0 then
            url_Rb_run_15 n σ y1 (y2 + 1)
          else
            if ub_in y2 12 then
            Option.bind (urf_Rb_review (wr σ 7 y2.toNatClampNeg (σ 111 1)) y2) (fun q7 =>
            url_Rb_run_15 n q7 y1 (y2 + 1))
            else none))
def urf_Rb_run (σ : ST)  : Option (Int32 × ST) :=
  url_Rb_run_15 200 (wr σ 111 2 0) (σ 111 4) 0
def urf_Rb_waiting (σ : ST)  : Option (Int32) :=
  some (σ 111 2)
def urf_Rb_about (σ : ST) (x1 : Int32) (x2 : Int32) : Option (Int32) :=
  Option.bind (urf_Pr_isKnown σ x1) (fun q1 =>
  if q1 = 0 then
    some (-1)
  else
    if x2 = 0 then
      if ub_in x1 60 then
      some (σ 10 x1.toNatClampNeg)
      else none
    else
      if x2 = 1 then
        if ub_in x1 60 then
        some (σ 11 x1.toNatClampNeg)
        else none
      else
        if x2 = 2 then
          if ub_in x1 60 then
          some (σ 12 x1.toNatClampNeg)
          else none
        else
          if x2 = 3 then
            if ub_in x1 60 then
            some (σ 13 x1.toNatClampNeg)
            else none
          else
            if x2 = 4 then
              if ub_in x1 60 then
              if (σ 110 x1.toNatClampNeg) = 0 then
                some 0
              else
                some 1
              else none
            else
              some (-1))
def urf_Rb_target (σ : ST) (x1 : Int32) (x2 : Int32) : Option (Int32) :=
  Option.bind (urf_Pr_isKnown σ x1) (fun q1 =>
  if q1 = 0 then
    some (-1)
  else
    Option.bind (urf_Nm_isKnown σ x2) (fun q3 =>
    if q3 = 0 then
      some (-1)
    else
      if ub_in x1 60 then
      if ub_in x2 12 then
      some (σ (x1.toNatClampNeg + 50) x2.toNatClampNeg)
      else none
      else none))
def url_Nm_moveUp_4 (k1 : Nat) : Nat → ST → Int32 → Int32 → Option (Int32 × ST)
  | 0, _, _, _ => none
  | n + 1, σ, y2, y3 =>
      if (σ 111 3) ≤ y3 then
        some (y2, σ)
      else
        if (nI (ur_len k1)) ≤ y3 then
          some (y2, σ)
        else
          if ub_in y3 (ur_len k1) then
          if ub_in y3 12 then
          if (σ k1 y3.toNatClampNeg) ≤ (σ 2 y3.toNatClampNeg) then
            url_Nm_moveUp_4 k1 n σ y2 (y3 + 1)
          else
            if ub_in y3 (ur_len k1) then
            if ub_in y3 12 then
            url_Nm_moveUp_4 k1 n (wr σ 2 y3.toNatClampNeg (σ k1 y3.toNatClampNeg)) (y2 + 1) (y3 + 1)
            else none
            else none
          else none
          else none
def urf_Nm_moveUp (σ : ST) (k1 : Nat) : Option (Int32 × ST) :=
  url_Nm_moveUp_4 k1 200 σ 0 0
def url_Pr_overlap_2 (σ : ST) : Nat → Int32 → Int32 → Int32 → Option (Int32)
  | 0, _, _, _ => none
  | n + 1, y1, y2, y3 =>
      if 12 ≤ y3 then
        some 0
      else
        if ub_in y1 60 then
        if ub_in y3 12 then
        if (σ (y1.toNatClampNeg + 50) y3.toNatClampNeg) = (-1) then
          url_Pr_overlap_2 σ n y1 y2 (y3 + 1)
        else
          if ub_in y2 60 then
          if ub_in y3 12 then
          if (σ (y2.toNatClampNeg + 50) y3.toNatClampNeg) = (-1) then
            url_Pr_overlap_2 σ n y1 y2 (y3 + 1)
          else
            some 1
          else none
          else none
        else none
        else none
def urf_Pr_overlap (σ : ST) (x1 : Int32) (x2 : Int32) : Option (Int32) :=
  url_Pr_overlap_2 σ 200 x1 x2 0
def urf_Rb_redo (σ : ST) (x1 : Int32) : Option (ST) :=
  if ub_in x1 60 then
  Option.bind (urf_Nm_isChief σ (σ 11 x1.toNatClampNeg)) (fun q2 =>
  if q2 = 0 then
    if ub_in x1 60 then
    some (wr σ 10 x1.toNatClampNeg 3)
    else none
  else
    Option.bind (urf_So_solveUnit σ (σ 11 x1.toNatClampNeg)) (fun q5 =>
    if q5.1 ≤ 0 then
      if ub_in x1 60 then
      some (wr q5.2 10 x1.toNatClampNeg 3)
      else none
    else
      Option.bind (urf_Pr_setRaised q5.2 x1 9) (fun q8 =>
      if ub_in x1 60 then
      if ub_in x1 60 then
      some (wr q8 12 x1.toNatClampNeg ((q8 12 x1.toNatClampNeg) + 1))
      else none
      else none)))
  else none
def url_Rb_redoAllTouchedBy_2 : Nat → ST → Int32 → Int32 → Option (ST)
  | 0, _, _, _ => none
  | n + 1, σ, y1, y2 =>
      if (σ 111 4) ≤ y2 then
        some σ
      else
        Option.bind (urf_Pr_isOpen σ y2) (fun q2 =>
        if q2 = 0 then
          url_Rb_redoAllTouchedBy_2 n σ y1 (y2 + 1)
        else
          Option.bind (urf_Pr_overlap σ y2 y1) (fun q4 =>
          if q4 = 0 then
            url_Rb_redoAllTouchedBy_2 n σ y1 (y2 + 1)
          else
            Option.bind (urf_Rb_redo σ y2) (fun q6 =>
            url_Rb_redoAllTouchedBy_2 n q6 y1 (y2 + 1))))
def urf_Rb_redoAllTouchedBy (σ : ST) (x1 : Int32) : Option (ST) :=
  url_Rb_redoAllTouchedBy_2 200 σ x1 0
def urf_Rb_pass (σ : ST) (x1 : Int32) (x2 : Int32) : Option (Int32 × ST) :=
  Option.bind (urf_Pr_isOpen σ x1) (fun q1 =>
  if q1 = 0 then
    some ((-1), σ)
  else
    if x2 = 0 then
      if ub_in x1 60 then
      some (0, (wr σ 10 x1.toNatClampNeg 4))
      else none
    else
      if ub_in x1 60 then
      if ub_in x1 60 then
      Option.bind (urf_Nm_moveUp (wr σ 10 x1.toNatClampNeg 1) (x1.toNatClampNeg + 50)) (fun q6 =>
      Option.bind (urf_Rb_redoAllTouchedBy q6.2 x1) (fun q7 =>
      some (q6.1, q7)))
      else none
      else none)
def urf_Rb_open (σ : ST) (x1 : Int32) : Option (Int32) :=
  Option.bind (urf_Rb_isRepository σ x1) (fun q1 =>
  if q1 = 0 then
    some (-1)
  else
    Option.bind (urf_Rb_openIn σ x1) (fun q3 =>
    some q3))
def rff_Md_isName (σ : ST) (x1 : Int32) : Option (Int32) :=
  if x1 < 0 then
    some 0
  else
    if (σ 18 3) ≤ x1 then
      some 0
    else
      some 1
def rfj_Md_name_23 (σ : ST) (y1 : Int32) : Option (Int32 × ST) :=
    some ((-1), σ)
def rff_Md_name (σ : ST) (x1 : Int32) : Option (Int32 × ST) :=
  if (σ 18 3) = 12 then
    rfj_Md_name_23 (wr σ 18 1 0) x1
  else
    if x1 < 0 then
      rfj_Md_name_23 (wr σ 18 1 0) x1
    else
      if x1 ≤ 2 then
        if ub_in (σ 18 3) 12 then
        if ub_in (σ 18 3) 12 then
        if ub_in (σ 18 3) 12 then
        if ub_in (σ 18 3) 12 then
        if ub_in (σ 18 3) 12 then
        if ub_in (σ 18 3) 12 then
        if ub_in (8 * (σ 18 3)) 96 then
        some ((((σ 18 3) + 1) - 1), (wr (wr (wr (wr (wr (wr (wr (wr (wr σ 18 1 0) 0 (σ 18 3).toNatClampNeg x1) 3 (σ 18 3).toNatClampNeg 2) 4 (σ 18 3).toNatClampNeg 1) 5 (σ 18 3).toNatClampNeg (-1)) 6 (σ 18 3).toNatClampNeg (-1)) 7 (σ 18 3).toNatClampNeg (-1)) 9 (8 * (σ 18 3)).toNatClampNeg (-1)) 18 3 ((σ 18 3) + 1)))
        else none
        else none
        else none
        else none
        else none
        else none
        else none
      else
        rfj_Md_name_23 (wr σ 18 1 0) x1
def rfj_Md_newer_33 (σ : ST) (y1 : Int32) (y2 : Int32) : Option (Int32 × ST) :=
    some ((-1), σ)
def rff_Md_newer (σ : ST) (x1 : Int32) (x2 : Int32) : Option (Int32 × ST) :=
  Option.bind (rff_Md_isName (wr σ 18 1 0) x1) (fun q1 =>
  if q1 = 0 then
    rfj_Md_newer_33 (wr σ 18 1 0) x1 x2
  else
    if x2 < 0 then
      rfj_Md_newer_33 (wr σ 18 1 0) x1 x2
    else
      if 2 < x2 then
        rfj_Md_newer_33 (wr σ 18 1 0) x1 x2
      else
        if ub_in x1 12 then
        if (σ 1 x1.toNatClampNeg) = 7 then
          rfj_Md_newer_33 (wr σ 18 1 0) x1 x2
        else
          if ub_in x1 12 then
          if ub_in x1 12 then
          if ub_in x1 12 then
          if ub_in ((8 * x1) + ((wr (wr σ 18 1 0) 1 x1.toNatClampNeg ((σ 1 x1.toNatClampNeg) + 1)) 1 x1.toNatClampNeg)) 96 then
          if ub_in x1 12 then
          if ub_in ((8 * x1) + ((wr (wr σ 18 1 0) 1 x1.toNatClampNeg ((σ 1 x1.toNatClampNeg) + 1)) 1 x1.toNatClampNeg)) 96 then
          if ub_in x1 12 then
          some (((wr (wr σ 18 1 0) 1 x1.toNatClampNeg ((σ 1 x1.toNatClampNeg) + 1)) 1 x1.toNatClampNeg), (wr (wr (wr (wr σ 18 1 0) 1 x1.toNatClampNeg ((σ 1 x1.toNatClampNeg) + 1)) 8 ((8 * x1) + ((wr (wr σ 18 1 0) 1 x1.toNatClampNeg ((σ 1 x1.toNatClampNeg) + 1)) 1 x1.toNatClampNeg)).toNatClampNeg x2) 9 ((8 * x1) + ((wr (wr σ 18 1 0) 1 x1.toNatClampNeg ((σ 1 x1.toNatClampNeg) + 1)) 1 x1.toNatClampNeg)).toNatClampNeg (-1)))
          else none
          else none
          else none
          else none
          else none
          else none
          else none
        else none)
def rfj_Md_needs_52 (σ : ST) (y1 : Int32) (y2 : Int32) (y3 : Int32) (y4 : Int32) : Option (Int32 × ST) :=
    some (0, σ)
def rff_Md_needs (σ : ST) (x1 : Int32) (x2 : Int32) (x3 : Int32) (x4 : Int32) : Option (Int32 × ST) :=
  Option.bind (rff_Md_isName (wr σ 18 1 0) x1) (fun q1 =>
  if q1 = 0 then
    rfj_Md_needs_52 (wr σ 18 1 0) x1 x2 x3 x4
  else
    if x2 < 0 then
      rfj_Md_needs_52 (wr σ 18 1 0) x1 x2 x3 x4
    else
      if ub_in x1 12 then
      if (σ 1 x1.toNatClampNeg) < x2 then
        rfj_Md_needs_52 (wr σ 18 1 0) x1 x2 x3 x4
      else
        Option.bind (rff_Md_isName (wr σ 18 1 0) x3) (fun q6 =>
        if q6 = 0 then
          rfj_Md_needs_52 (wr σ 18 1 0) x1 x2 x3 x4
        else
          if x3 = x1 then
            rfj_Md_needs_52 (wr σ 18 1 0) x1 x2 x3 x4
          else
            if x4 < 0 then
              rfj_Md_needs_52 (wr σ 18 1 0) x1 x2 x3 x4
            else
              if x4 ≤ 7 then
                if ub_in ((8 * x1) + x2) 96 then
                if ub_in ((8 * x1) + x2) 96 then
                some (1, (wr (wr (wr σ 18 1 0) 9 ((8 * x1) + x2).toNatClampNeg x3) 10 ((8 * x1) + x2).toNatClampNeg x4))
                else none
                else none
              else
                rfj_Md_needs_52 (wr σ 18 1 0) x1 x2 x3 x4)
      else none)
def rff_Md_rule (σ : ST) (x1 : Int32) (x2 : Int32) (x3 : Int32) (x4 : Int32) : Option (Int32 × ST) :=
  Option.bind (rff_Md_isName (wr σ 18 1 0) x1) (fun q1 =>
  if q1 = 0 then
    some (0, (wr σ 18 1 0))
  else
    if x2 < (-1) then
      some (0, (wr σ 18 1 0))
    else
      if 2 < x2 then
        some (0, (wr σ 18 1 0))
      else
        if x3 < 1 then
          some (0, (wr σ 18 1 0))
        else
          if 1000 < x3 then
            some (0, (wr σ 18 1 0))
          else
            if x4 < (-1) then
              some (0, (wr σ 18 1 0))
            else
              if x4 ≤ 3 then
                if ub_in x1 12 then
                if ub_in x1 12 then
                if ub_in x1 12 then
                some (1, (wr (wr (wr (wr σ 18 1 0) 3 x1.toNatClampNeg x2) 4 x1.toNatClampNeg x3) 5 x1.toNatClampNeg x4))
                else none
                else none
                else none
              else
                some (0, (wr σ 18 1 0)))
def rff_Md_advise (σ : ST) (x1 : Int32) (x2 : Int32) : Option (Int32 × ST) :=
  Option.bind (rff_Md_isName (wr σ 18 1 0) x1) (fun q1 =>
  if q1 = 0 then
    some (0, (wr σ 18 1 0))
  else
    if x2 < (-1) then
      some (0, (wr σ 18 1 0))
    else
      if ub_in x1 12 then
      if x2 ≤ (σ 1 x1.toNatClampNeg) then
        if ub_in x1 12 then
        some (1, (wr (wr σ 18 1 0) 6 x1.toNatClampNeg x2))
        else none
      else
        some (0, (wr σ 18 1 0))
      else none)
def rff_Md_has (σ : ST) (x1 : Int32) : Option (Int32 × ST) :=
  Option.bind (rff_Md_isName (wr σ 18 1 0) x1) (fun q1 =>
  if q1 = 0 then
    some ((-1), (wr σ 18 1 0))
  else
    if ub_in x1 12 then
    some ((σ 2 x1.toNatClampNeg), (wr σ 18 1 0))
    else none)
def rff_Md_isHit (σ : ST) (x1 : Int32) : Option (Int32) :=
  if ub_in x1 12 then
  if (σ 6 x1.toNatClampNeg) = (-1) then
    some 0
  else
    if ub_in x1 12 then
    if ub_in x1 12 then
    if (σ 6 x1.toNatClampNeg) < (σ 2 x1.toNatClampNeg) then
      some 0
    else
      some 1
    else none
    else none
  else none
def rfl_Md_isAllowed_26 (σ : ST) : Nat → Int32 → Int32 → Int32 → Int32 → Option (Int32)
  | 0, _, _, _, _ => none
  | n + 1, y1, y2, y3, y4 =>
      if y2 < y4 then
        if y3 = 0 ∨ y3 = 1 then some y3 else none
      else
        if y3 = 0 then
          if y3 = 0 ∨ y3 = 1 then some y3 else none
        else
          if ub_in ((8 * y1) + y4) 96 then
          if ub_in y1 12 then
          if (σ 3 y1.toNatClampNeg) < (σ 8 ((8 * y1) + y4).toNatClampNeg) then
            rfl_Md_isAllowed_26 σ n y1 y2 0 (y4 + 1)
          else
            rfl_Md_isAllowed_26 σ n y1 y2 1 (y4 + 1)
          else none
          else none
def rff_Md_isAllowed (σ : ST) (x1 : Int32) (x2 : Int32) : Option (Int32) :=
  if ub_in x1 12 then
  if (σ 1 x1.toNatClampNeg) < x2 then
    if ub_in x1 12 then
    rfl_Md_isAllowed_26 σ 200 x1 x2 0 ((σ 2 x1.toNatClampNeg) + 1)
    else none
  else
    if ub_in x1 12 then
    rfl_Md_isAllowed_26 σ 200 x1 x2 1 ((σ 2 x1.toNatClampNeg) + 1)
    else none
  else none
def rfl_Md_goalOf_7 (σ : ST) : Nat → Int32 → Int32 → Option (Int32)
  | 0, _, _ => none
  | n + 1, y1, y2 =>
      Option.bind (rff_Md_isAllowed σ y1 (y2 + 1)) (fun q2 =>
      if q2 = 0 then
        Option.bind (rff_Md_isHit σ y1) (fun q4 =>
        if q4 = 0 then
          some y2
        else
          if ub_in y1 12 then
          if (σ 6 y1.toNatClampNeg) < y2 then
            some y2
          else
            if ub_in y1 12 then
            if ub_in y1 12 then
            if (σ 1 y1.toNatClampNeg) ≤ (σ 6 y1.toNatClampNeg) then
              some y2
            else
              if ub_in y1 12 then
              some ((σ 6 y1.toNatClampNeg) + 1)
              else none
            else none
            else none
          else none)
      else
        rfl_Md_goalOf_7 σ n y1 (y2 + 1))
def rff_Md_goalOf (σ : ST) (x1 : Int32) : Option (Int32) :=
  if ub_in x1 12 then
  rfl_Md_goalOf_7 σ 200 x1 (σ 2 x1.toNatClampNeg)
  else none
def rff_Md_goal (σ : ST) (x1 : Int32) : Option (Int32 × ST) :=
  Option.bind (rff_Md_isName (wr σ 18 1 0) x1) (fun q1 =>
  if q1 = 0 then
    some ((-1), (wr σ 18 1 0))
  else
    Option.bind (rff_Md_goalOf (wr σ 18 1 0) x1) (fun q3 =>
    some (q3, (wr σ 18 1 0))))
def rff_Md_areOne (σ : ST) (x1 : Int32) (x2 : Int32) : Option (Int32) :=
  if x1 = x2 then
    some 1
  else
    if ub_in x1 12 then
    if (σ 5 x1.toNatClampNeg) = (-1) then
      some 0
    else
      if ub_in x1 12 then
      if ub_in x2 12 then
      if (σ 5 x1.toNatClampNeg) = (σ 5 x2.toNatClampNeg) then
        if ub_in x1 12 then
        if ub_in x2 12 then
        if (σ 0 x1.toNatClampNeg) = (σ 0 x2.toNatClampNeg) then
          some 1
        else
          some 0
        else none
        else none
      else
        some 0
      else none
      else none
    else none
def rfl_Md_chiefOf_2 (σ : ST) : Nat → Int32 → Int32 → Option (Int32)
  | 0, _, _ => none
  | n + 1, y1, y2 =>
      Option.bind (rff_Md_areOne σ y2 y1) (fun q1 =>
      if q1 = 0 then
        rfl_Md_chiefOf_2 σ n y1 (y2 + 1)
      else
        some y2)
def rff_Md_chiefOf (σ : ST) (x1 : Int32) : Option (Int32) :=
  rfl_Md_chiefOf_2 σ 200 x1 0
def rff_Md_chief (σ : ST) (x1 : Int32) : Option (Int32 × ST) :=
  Option.bind (rff_Md_isName (wr σ 18 1 0) x1) (fun q1 =>
  if q1 = 0 then
    some ((-1), (wr σ 18 1 0))
  else
    Option.bind (rff_Md_chiefOf (wr σ 18 1 0) x1) (fun q3 =>
    some (q3, (wr σ 18 1 0))))
def rfl_Md_wanting_2 (σ : ST) : Nat → Int32 → Option (Int32)
  | 0, _ => none
  | n + 1, y1 =>
      if (σ 18 3) ≤ y1 then
        some (-1)
      else
        if ub_in y1 12 then
        if ub_in y1 12 then
        if ub_in y1 12 then
        if (σ 11 y1.toNatClampNeg) ≤ (σ 2 y1.toNatClampNeg) then
          rfl_Md_wanting_2 σ n (y1 + 1)
        else
          if ub_in ((8 * y1) + (σ 11 y1.toNatClampNeg)) 96 then
          if (σ 9 ((8 * y1) + (σ 11 y1.toNatClampNeg)).toNatClampNeg) = (-1) then
            rfl_Md_wanting_2 σ n (y1 + 1)
          else
            if ub_in ((8 * y1) + (σ 11 y1.toNatClampNeg)) 96 then
            if ub_in ((8 * y1) + (σ 11 y1.toNatClampNeg)) 96 then
            if ub_in (σ 9 ((8 * y1) + (σ 11 y1.toNatClampNeg)).toNatClampNeg) 12 then
            if (σ 10 ((8 * y1) + (σ 11 y1.toNatClampNeg)).toNatClampNeg) ≤ (σ 11 (σ 9 ((8 * y1) + (σ 11 y1.toNatClampNeg)).toNatClampNeg).toNatClampNeg) then
              rfl_Md_wanting_2 σ n (y1 + 1)
            else
              some y1
            else none
            else none
            else none
          else none
        else none
        else none
        else none
def rff_Md_wanting (σ : ST)  : Option (Int32) :=
  rfl_Md_wanting_2 σ 200 0
def rfl_Md_find_127 : Nat → ST → Int32 → Int32 → Int32 → Option (Int32 × ST)
  | 0, _, _, _, _ => none
  | n + 1, σ, y1, y2, y3 =>
      if (σ 18 3) ≤ y3 then
        some (y2, σ)
      else
        if ub_in y3 12 then
        if ub_in y3 12 then
        if (σ 11 y3.toNatClampNeg) ≤ (σ 2 y3.toNatClampNeg) then
          rfl_Md_find_127 n σ y1 (y2 + 0) (y3 + 1)
        else
          rfl_Md_find_127 n σ y1 (y2 + 1) (y3 + 1)
        else none
        else none
def rfl_Md_find_50 : Nat → ST → Int32 → Int32 → Option (Int32 × ST)
  | 0, _, _, _ => none
  | n + 1, σ, y1, y2 =>
      if y2 = (-1) then
        rfl_Md_find_127 200 σ y1 0 0
      else
        if ub_in y2 12 then
        if ub_in ((8 * y2) + (σ 11 y2.toNatClampNeg)) 96 then
        if ub_in ((8 * y2) + (σ 11 y2.toNatClampNeg)) 96 then
        Option.bind (rff_Md_isAllowed σ (σ 9 ((8 * y2) + (σ 11 y2.toNatClampNeg)).toNatClampNeg) (σ 10 ((8 * y2) + (σ 11 y2.toNatClampNeg)).toNatClampNeg)) (fun q11 =>
        if q11 = 0 then
          if ub_in ((8 * y2) + (σ 11 y2.toNatClampNeg)) 96 then
          some ((-1), (wr σ 18 6 (σ 9 ((8 * y2) + (σ 11 y2.toNatClampNeg)).toNatClampNeg)))
          else none
        else
          if ub_in ((8 * y2) + (σ 11 y2.toNatClampNeg)) 96 then
          if ub_in ((8 * y2) + (σ 11 y2.toNatClampNeg)) 96 then
          if ub_in (σ 9 ((8 * y2) + (σ 11 y2.toNatClampNeg)).toNatClampNeg) 12 then
          Option.bind (rff_Md_wanting (wr σ 11 (σ 9 ((8 * y2) + (σ 11 y2.toNatClampNeg)).toNatClampNeg).toNatClampNeg (σ 10 ((8 * y2) + (σ 11 y2.toNatClampNeg)).toNatClampNeg)) ) (fun q16 =>
          rfl_Md_find_50 n (wr σ 11 (σ 9 ((8 * y2) + (σ 11 y2.toNatClampNeg)).toNatClampNeg).toNatClampNeg (σ 10 ((8 * y2) + (σ 11 y2.toNatClampNeg)).toNatClampNeg)) y1 q16)
          else none
          else none
          else none)
        else none
        else none
        else none
def rfl_Md_find_2 : Nat → ST → Int32 → Int32 → Option (Int32 × ST)
  | 0, _, _, _ => none
  | n + 1, σ, y1, y2 =>
      if (σ 18 3) ≤ y2 then
        Option.bind (rff_Md_wanting σ ) (fun q2 =>
        rfl_Md_find_50 200 σ y1 q2)
      else
        Option.bind (rff_Md_areOne σ y2 y1) (fun q18 =>
        if q18 = 0 then
          if ub_in y2 12 then
          if ub_in y2 12 then
          rfl_Md_find_2 n (wr σ 11 y2.toNatClampNeg (σ 2 y2.toNatClampNeg)) y1 (y2 + 1)
          else none
          else none
        else
          Option.bind (rff_Md_goalOf σ y2) (fun q22 =>
          if ub_in y2 12 then
          rfl_Md_find_2 n (wr σ 11 y2.toNatClampNeg q22) y1 (y2 + 1)
          else none))
def rff_Md_find (σ : ST) (x1 : Int32) : Option (Int32 × ST) :=
  rfl_Md_find_2 200 σ x1 0
def rff_Md_solve (σ : ST) (x1 : Int32) : Option (Int32 × ST) :=
  Option.bind (rff_Md_isName (wr σ 18 1 0) x1) (fun q1 =>
  if q1 = 0 then
    some ((-1), (wr σ 18 1 0))
  else
    Option.bind (rff_Md_chiefOf (wr σ 18 1 0) x1) (fun q3 =>
    if q3 = x1 then
      Option.bind (rff_Md_find (wr σ 18 1 0) x1) (fun q5 =>
      if q5.1 = (-1) then
        some (((-2) - (q5.2 18 6)), q5.2)
      else
        some (q5.1, q5.2))
    else
      some ((-1), (wr σ 18 1 0))))
def rff_Md_tick (σ : ST) (x1 : Int32) : Option (Int32 × ST) :=
  if x1 < 0 then
    some ((-1), (wr σ 18 1 0))
  else
    if 100000 < x1 then
      some ((-1), (wr σ 18 1 0))
    else
      if ((σ 18 2) + x1) ≤ 1000000000 then
        some (((σ 18 2) + x1), (wr (wr σ 18 1 0) 18 2 ((σ 18 2) + x1)))
      else
        some ((-1), (wr σ 18 1 0))
def rff_Md_raised (σ : ST) (x1 : Int32) : Option (Int32) :=
  if ub_in x1 12 then
  if ub_in x1 12 then
  if (σ 11 x1.toNatClampNeg) ≤ (σ 2 x1.toNatClampNeg) then
    some (-1)
  else
    if ub_in x1 12 then
    some (σ 11 x1.toNatClampNeg)
    else none
  else none
  else none
def rfl_Md_isSame_4 (σ : ST) : Nat → Int32 → Int32 → Int32 → Option (Int32)
  | 0, _, _, _ => none
  | n + 1, y1, y2, y3 =>
      if (σ 18 3) ≤ y3 then
        if y2 = 0 ∨ y2 = 1 then some y2 else none
      else
        if y2 = 0 then
          rfl_Md_isSame_4 σ n y1 0 (y3 + 1)
        else
          if ub_in ((12 * y1) + y3) 720 then
          Option.bind (rff_Md_raised σ y3) (fun q5 =>
          if (σ 17 ((12 * y1) + y3).toNatClampNeg) = q5 then
            rfl_Md_isSame_4 σ n y1 1 (y3 + 1)
          else
            rfl_Md_isSame_4 σ n y1 0 (y3 + 1))
          else none
def rff_Md_isSame (σ : ST) (x1 : Int32) : Option (Int32) :=
  rfl_Md_isSame_4 σ 200 x1 1 0
def rfl_Md_fill_2 : Nat → ST → Int32 → Int32 → Option (ST)
  | 0, _, _, _ => none
  | n + 1, σ, y1, y2 =>
      if 12 ≤ y2 then
        some σ
      else
        if (σ 18 3) ≤ y2 then
          if ub_in ((12 * y1) + y2) 720 then
          rfl_Md_fill_2 n (wr σ 17 ((12 * y1) + y2).toNatClampNeg (-1)) y1 (y2 + 1)
          else none
        else
          Option.bind (rff_Md_raised σ y2) (fun q4 =>
          if ub_in ((12 * y1) + y2) 720 then
          rfl_Md_fill_2 n (wr σ 17 ((12 * y1) + y2).toNatClampNeg q4) y1 (y2 + 1)
          else none)
def rff_Md_fill (σ : ST) (x1 : Int32) : Option (ST) :=
  rfl_Md_fill_2 200 σ x1 0
def rfl_Md_latest_5 (σ : ST) : Nat → Int32 → Int32 → Int32 → Int32 → Option (Int32)
  | 0, _, _, _, _ => none
  | n + 1, y1, y2, y3, y4 =>
      if (σ 18 4) ≤ y4 then
        some y3
      else
        if ub_in y4 60 then
        if (σ 13 y4.toNatClampNeg) = y1 then
          if ub_in y4 60 then
          if (σ 12 y4.toNatClampNeg) = y2 then
            rfl_Md_latest_5 σ n y1 y2 y4 (y4 + 1)
          else
            rfl_Md_latest_5 σ n y1 y2 y3 (y4 + 1)
          else none
        else
          rfl_Md_latest_5 σ n y1 y2 y3 (y4 + 1)
        else none
def rff_Md_latest (σ : ST) (x1 : Int32) (x2 : Int32) : Option (Int32) :=
  rfl_Md_latest_5 σ 200 x1 x2 (-1) 0
def rfl_Md_opens_4 (σ : ST) : Nat → Int32 → Int32 → Int32 → Option (Int32)
  | 0, _, _, _ => none
  | n + 1, y1, y2, y3 =>
      if (σ 18 4) ≤ y3 then
        some y2
      else
        if ub_in y3 60 then
        if (σ 12 y3.toNatClampNeg) = 0 then
          if ub_in y3 60 then
          if ub_in (σ 13 y3.toNatClampNeg) 12 then
          if (σ 0 (σ 13 y3.toNatClampNeg).toNatClampNeg) = y1 then
            rfl_Md_opens_4 σ n y1 (y2 + 1) (y3 + 1)
          else
            rfl_Md_opens_4 σ n y1 (y2 + 0) (y3 + 1)
          else none
          else none
        else
          rfl_Md_opens_4 σ n y1 (y2 + 0) (y3 + 1)
        else none
def rff_Md_opens (σ : ST) (x1 : Int32) : Option (Int32) :=
  rfl_Md_opens_4 σ 200 x1 0 0
def rfl_Md_isDue_23 (σ : ST) : Nat → Int32 → Int32 → Int32 → Int32 → Option (Int32)
  | 0, _, _, _, _ => none
  | n + 1, y1, y2, y3, y4 =>
      if (σ 18 3) ≤ y4 then
        if y2 = 0 then
          if ub_in y1 12 then
          if ((σ 18 2) - (σ 7 y1.toNatClampNeg)) < y3 then
            some 0
          else
            some 1
          else none
        else
          some 1
      else
        Option.bind (rff_Md_areOne σ y4 y1) (fun q7 =>
        if q7 = 0 then
          rfl_Md_isDue_23 σ n y1 y2 y3 (y4 + 1)
        else
          if y2 = 0 then
            Option.bind (rff_Md_isHit σ y4) (fun q13 =>
            if q13 = 0 then
              if ub_in y4 12 then
              if y3 ≤ (σ 4 y4.toNatClampNeg) then
                rfl_Md_isDue_23 σ n y1 0 y3 (y4 + 1)
              else
                if ub_in y4 12 then
                rfl_Md_isDue_23 σ n y1 0 (σ 4 y4.toNatClampNeg) (y4 + 1)
                else none
              else none
            else
              if ub_in y4 12 then
              if y3 ≤ (σ 4 y4.toNatClampNeg) then
                rfl_Md_isDue_23 σ n y1 1 y3 (y4 + 1)
              else
                if ub_in y4 12 then
                rfl_Md_isDue_23 σ n y1 1 (σ 4 y4.toNatClampNeg) (y4 + 1)
                else none
              else none)
          else
            if ub_in y4 12 then
            if y3 ≤ (σ 4 y4.toNatClampNeg) then
              rfl_Md_isDue_23 σ n y1 1 y3 (y4 + 1)
            else
              if ub_in y4 12 then
              rfl_Md_isDue_23 σ n y1 1 (σ 4 y4.toNatClampNeg) (y4 + 1)
              else none
            else none)
def rff_Md_isDue (σ : ST) (x1 : Int32) : Option (Int32) :=
  if ub_in x1 12 then
  if (σ 7 x1.toNatClampNeg) = (-1) then
    rfl_Md_isDue_23 σ 200 x1 1 1000 0
  else
    rfl_Md_isDue_23 σ 200 x1 0 1000 0
  else none
def rfl_Md_isUnitHit_4 (σ : ST) : Nat → Int32 → Int32 → Int32 → Option (Int32)
  | 0, _, _, _ => none
  | n + 1, y1, y2, y3 =>
      if (σ 18 3) ≤ y3 then
        if y2 = 0 ∨ y2 = 1 then some y2 else none
      else
        if y2 = 0 then
          Option.bind (rff_Md_areOne σ y3 y1) (fun q4 =>
          if q4 = 0 then
            rfl_Md_isUnitHit_4 σ n y1 0 (y3 + 1)
          else
            Option.bind (rff_Md_isHit σ y3) (fun q6 =>
            if q6 = 0 then
              rfl_Md_isUnitHit_4 σ n y1 0 (y3 + 1)
            else
              rfl_Md_isUnitHit_4 σ n y1 1 (y3 + 1)))
        else
          rfl_Md_isUnitHit_4 σ n y1 1 (y3 + 1)
def rff_Md_isUnitHit (σ : ST) (x1 : Int32) : Option (Int32) :=
  rfl_Md_isUnitHit_4 σ 200 x1 0 0
def rfj_Md_propose_126 (σ : ST) (y1 : Int32) (y2 : Int32) (y3 : Int32) (y4 : Int32) (y5 : Int32) : Option (Int32 × ST) :=
    some ((-1), σ)
def rfj_Md_propose_140 (σ : ST) (y1 : Int32) (y2 : Int32) (y3 : Int32) (y4 : Int32) (y5 : Int32) : Option (Int32 × ST) :=
    if ub_in (σ 18 4) 60 then
    if ub_in (σ 18 4) 60 then
    if ub_in (σ 18 4) 60 then
    if y5 = 0 then
      if ub_in (σ 18 4) 60 then
      Option.bind (rff_Md_fill (wr (wr (wr (wr σ 12 (σ 18 4).toNatClampNeg 0) 13 (σ 18 4).toNatClampNeg y1) 15 (σ 18 4).toNatClampNeg (σ 18 2)) 16 (σ 18 4).toNatClampNeg 0) (σ 18 4)) (fun q16 =>
      some (1, (wr q16 18 4 ((q16 18 4) + 1))))
      else none
    else
      if ub_in (σ 18 4) 60 then
      Option.bind (rff_Md_fill (wr (wr (wr (wr σ 12 (σ 18 4).toNatClampNeg 0) 13 (σ 18 4).toNatClampNeg y1) 15 (σ 18 4).toNatClampNeg (σ 18 2)) 16 (σ 18 4).toNatClampNeg 1) (σ 18 4)) (fun q18 =>
      some (1, (wr q18 18 4 ((q18 18 4) + 1))))
      else none
    else none
    else none
    else none
def rfj_Md_propose_128 (σ : ST) (y1 : Int32) (y2 : Int32) (y3 : Int32) (y4 : Int32) (y5 : Int32) : Option (Int32 × ST) :=
    if y3 = (-1) then
      rfj_Md_propose_140 σ y1 y2 y3 y4 y5
    else
      if ub_in y3 60 then
      rfj_Md_propose_140 (wr σ 12 y3.toNatClampNeg 2) y1 y2 y3 y4 y5
      else none
def rfj_Md_propose_83 (σ : ST) (y1 : Int32) (y2 : Int32) (y3 : Int32) (y4 : Int32) : Option (Int32 × ST) :=
    Option.bind (rff_Md_isUnitHit σ y1) (fun q7 =>
    if (σ 18 4) = 60 then
      rfj_Md_propose_126 σ y1 y2 y3 y4 q7
    else
      if y3 = (-1) then
        if ub_in y1 12 then
        Option.bind (rff_Md_opens σ (σ 0 y1.toNatClampNeg)) (fun q21 =>
        if q21 < (σ 18 0) then
          rfj_Md_propose_128 σ y1 y2 y3 y4 q7
        else
          if q7 = 0 then
            rfj_Md_propose_126 σ y1 y2 y3 y4 q7
          else
            rfj_Md_propose_128 σ y1 y2 y3 y4 q7)
        else none
      else
        rfj_Md_propose_128 σ y1 y2 y3 y4 q7)
def rfj_Md_propose_81 (σ : ST) (y1 : Int32) (y2 : Int32) (y3 : Int32) (y4 : Int32) : Option (Int32 × ST) :=
    some (0, σ)
def rfj_Md_propose_46 (σ : ST) (y1 : Int32) (y2 : Int32) (y3 : Int32) : Option (Int32 × ST) :=
    Option.bind (rff_Md_latest σ y1 4) (fun q5 =>
    if q5 = (-1) then
      rfj_Md_propose_83 σ y1 y2 y3 q5
    else
      Option.bind (rff_Md_isSame σ q5) (fun q24 =>
      if q24 = 0 then
        rfj_Md_propose_83 σ y1 y2 y3 q5
      else
        if y3 = (-1) then
          rfj_Md_propose_81 σ y1 y2 y3 q5
        else
          if ub_in y3 60 then
          rfj_Md_propose_81 (wr σ 12 y3.toNatClampNeg 3) y1 y2 y3 q5
          else none))
def rfj_Md_propose_29 (σ : ST) (y1 : Int32) (y2 : Int32) (y3 : Int32) : Option (Int32 × ST) :=
    some (0, σ)
def rff_Md_propose (σ : ST) (x1 : Int32) : Option (Int32 × ST) :=
  Option.bind (rff_Md_find σ x1) (fun q1 =>
  Option.bind (rff_Md_latest q1.2 x1 0) (fun q2 =>
  if 0 < q1.1 then
    if q2 = (-1) then
      rfj_Md_propose_46 q1.2 x1 q1.1 q2
    else
      Option.bind (rff_Md_isSame q1.2 q2) (fun q28 =>
      if q28 = 0 then
        rfj_Md_propose_46 q1.2 x1 q1.1 q2
      else
        some (0, q1.2))
  else
    if q2 = (-1) then
      rfj_Md_propose_29 q1.2 x1 q1.1 q2
    else
      if ub_in q2 60 then
      rfj_Md_propose_29 (wr q1.2 12 q2.toNatClampNeg 3) x1 q1.1 q2
      else none))
def rfl_Md_run_14 : Nat → ST → Int32 → Int32 → Option (Int32 × ST)
  | 0, _, _, _ => none
  | n + 1, σ, y1, y2 =>
      if (σ 18 3) ≤ y2 then
        some (y1, σ)
      else
        Option.bind (rff_Md_chiefOf σ y2) (fun q2 =>
        if q2 = y2 then
          Option.bind (rff_Md_isDue σ y2) (fun q4 =>
          if q4 = 0 then
            rfl_Md_run_14 n σ y1 (y2 + 1)
          else
            if ub_in y2 12 then
            Option.bind (rff_Md_propose (wr σ 7 y2.toNatClampNeg (σ 18 2)) y2) (fun q7 =>
            if q7.1 = 1 then
              if q7.1 = (-1) then
                rfl_Md_run_14 n (wr q7.2 18 5 ((q7.2 18 5) + 1)) (y1 + 1) (y2 + 1)
              else
                rfl_Md_run_14 n (wr q7.2 18 5 ((q7.2 18 5) + 0)) (y1 + 1) (y2 + 1)
            else
              if q7.1 = (-1) then
                rfl_Md_run_14 n (wr q7.2 18 5 ((q7.2 18 5) + 1)) (y1 + 0) (y2 + 1)
              else
                rfl_Md_run_14 n (wr q7.2 18 5 ((q7.2 18 5) + 0)) (y1 + 0) (y2 + 1))
            else none)
        else
          rfl_Md_run_14 n σ y1 (y2 + 1))
def rff_Md_run (σ : ST)  : Option (Int32 × ST) :=
  rfl_Md_run_14 200 (wr (wr σ 18 1 0) 18 5 0) 0 0
def rff_Md_waiting (σ : ST)  : Option (Int32 × ST) :=
  some ((σ 18 5), (wr σ 18 1 0))
def rfj_Md_about_17 (σ : ST) (y1 : Int32) (y2 : Int32) : Option (Int32 × ST) :=
    some ((-1), σ)
def rff_Md_about (σ : ST) (x1 : Int32) (x2 : Int32) : Option (Int32 × ST) :=
  if x1 < 0 then
    rfj_Md_about_17 (wr σ 18 1 0) x1 x2
  else
    if x1 < (σ 18 4) then
      if x2 = 0 then
        if ub_in x1 60 then
        some ((σ 12 x1.toNatClampNeg), (wr σ 18 1 0))
        else none
      else
        if x2 = 1 then
          if ub_in x1 60 then
          some ((σ 13 x1.toNatClampNeg), (wr σ 18 1 0))
          else none
        else
          if x2 = 2 then
            if ub_in x1 60 then
            some ((σ 14 x1.toNatClampNeg), (wr σ 18 1 0))
            else none
          else
            if x2 = 3 then
              if ub_in x1 60 then
              some ((σ 15 x1.toNatClampNeg), (wr σ 18 1 0))
              else none
            else
              if x2 = 4 then
                if ub_in x1 60 then
                some ((σ 16 x1.toNatClampNeg), (wr σ 18 1 0))
                else none
              else
                some ((-1), (wr σ 18 1 0))
    else
      rfj_Md_about_17 (wr σ 18 1 0) x1 x2
def rff_Md_target (σ : ST) (x1 : Int32) (x2 : Int32) : Option (Int32 × ST) :=
  if x1 < 0 then
    some ((-1), (wr σ 18 1 0))
  else
    if (σ 18 4) ≤ x1 then
      some ((-1), (wr σ 18 1 0))
    else
      Option.bind (rff_Md_isName (wr σ 18 1 0) x2) (fun q3 =>
      if q3 = 0 then
        some ((-1), (wr σ 18 1 0))
      else
        if ub_in ((12 * x1) + x2) 720 then
        some ((σ 17 ((12 * x1) + x2).toNatClampNeg), (wr σ 18 1 0))
        else none)
def rff_Md_redo (σ : ST) (x1 : Int32) : Option (ST) :=
  if ub_in x1 60 then
  Option.bind (rff_Md_chiefOf σ (σ 13 x1.toNatClampNeg)) (fun q2 =>
  if q2 = (σ 13 x1.toNatClampNeg) then
    Option.bind (rff_Md_find σ (σ 13 x1.toNatClampNeg)) (fun q5 =>
    if 0 < q5.1 then
      if ub_in x1 60 then
      if ub_in x1 60 then
      Option.bind (rff_Md_fill (wr q5.2 14 x1.toNatClampNeg ((q5.2 14 x1.toNatClampNeg) + 1)) x1) (fun q9 =>
      some q9)
      else none
      else none
    else
      if ub_in x1 60 then
      some (wr q5.2 12 x1.toNatClampNeg 3)
      else none)
  else
    if ub_in x1 60 then
    some (wr σ 12 x1.toNatClampNeg 3)
    else none)
  else none
def rfj_Md_pass_26 (σ : ST) (y1 : Int32) (y2 : Int32) : Option (Int32 × ST) :=
    some ((-1), σ)
def rfl_Md_pass_144 : Nat → ST → Int32 → Int32 → Int32 → Int32 → Int32 → Int32 → Int32 → Option (ST × Int32 × Int32 × Int32 × Int32 × Int32 × Int32 × Int32)
  | 0, _, _, _, _, _, _, _, _ => none
  | n + 1, σ, y1, y2, y3, y4, y5, y6, y7 =>
      if (σ 18 3) ≤ y7 then
        some (σ, y1, y2, y3, y4, y5, y6, y7)
      else
        if y6 = 0 then
          if ((y3 >>> (y7 &&& 31)) &&& 1) = 1 then
            if ub_in ((12 * y5) + y7) 720 then
            if (σ 17 ((12 * y5) + y7).toNatClampNeg) = (-1) then
              rfl_Md_pass_144 n σ y1 y2 y3 y4 y5 0 (y7 + 1)
            else
              rfl_Md_pass_144 n σ y1 y2 y3 y4 y5 1 (y7 + 1)
            else none
          else
            rfl_Md_pass_144 n σ y1 y2 y3 y4 y5 0 (y7 + 1)
        else
          rfl_Md_pass_144 n σ y1 y2 y3 y4 y5 1 (y7 + 1)
def rfl_Md_pass_129 : Nat → ST → Int32 → Int32 → Int32 → Int32 → Int32 → Option (Int32 × ST)
  | 0, _, _, _, _, _, _ => none
  | n + 1, σ, y1, y2, y3, y4, y5 =>
      if (σ 18 4) ≤ y5 then
        some (y4, σ)
      else
        Option.bind (rfl_Md_pass_144 200 σ y1 y2 y3 y4 y5 0 0) (fun q15 =>
        if ub_in q15.2.2.2.2.2.1 60 then
        if (q15.1 12 q15.2.2.2.2.2.1.toNatClampNeg) = 0 then
          if q15.2.2.2.2.2.2.1 = 0 then
            rfl_Md_pass_129 n q15.1 q15.2.1 q15.2.2.1 q15.2.2.2.1 q15.2.2.2.2.1 (q15.2.2.2.2.2.1 + 1)
          else
            Option.bind (rff_Md_redo q15.1 q15.2.2.2.2.2.1) (fun q19 =>
            rfl_Md_pass_129 n q19 q15.2.1 q15.2.2.1 q15.2.2.2.1 q15.2.2.2.2.1 (q15.2.2.2.2.2.1 + 1))
        else
          rfl_Md_pass_129 n q15.1 q15.2.1 q15.2.2.1 q15.2.2.2.1 q15.2.2.2.2.1 (q15.2.2.2.2.2.1 + 1)
        else none)
def rfl_Md_pass_57 : Nat → ST → Int32 → Int32 → Int32 → Int32 → Int32 → Option (Int32 × ST)
  | 0, _, _, _, _, _, _ => none
  | n + 1, σ, y1, y2, y3, y4, y5 =>
      if (σ 18 3) ≤ y5 then
        rfl_Md_pass_129 200 σ y1 y2 y3 y4 0
      else
        if ub_in ((12 * y1) + y5) 720 then
        if ub_in y5 12 then
        if (σ 2 y5.toNatClampNeg) < (σ 17 ((12 * y1) + y5).toNatClampNeg) then
          if ub_in ((12 * y1) + y5) 720 then
          if ub_in y5 12 then
          rfl_Md_pass_57 n (wr σ 2 y5.toNatClampNeg (σ 17 ((12 * y1) + y5).toNatClampNeg)) y1 y2 (y3 ||| (1 <<< (y5 &&& 31))) (y4 + 1) (y5 + 1)
          else none
          else none
        else
          rfl_Md_pass_57 n σ y1 y2 y3 y4 (y5 + 1)
        else none
        else none
def rff_Md_pass (σ : ST) (x1 : Int32) (x2 : Int32) : Option (Int32 × ST) :=
  if x1 < 0 then
    rfj_Md_pass_26 (wr σ 18 1 0) x1 x2
  else
    if (σ 18 4) ≤ x1 then
      rfj_Md_pass_26 (wr σ 18 1 0) x1 x2
    else
      if ub_in x1 60 then
      if (σ 12 x1.toNatClampNeg) = 0 then
        if x2 = 0 then
          if ub_in x1 60 then
          if x2 = 0 then
            some (0, (wr (wr σ 18 1 0) 12 x1.toNatClampNeg 4))
          else
            rfl_Md_pass_57 200 (wr (wr σ 18 1 0) 12 x1.toNatClampNeg 4) x1 x2 0 0 0
          else none
        else
          if ub_in x1 60 then
          if x2 = 0 then
            some (0, (wr (wr σ 18 1 0) 12 x1.toNatClampNeg 1))
          else
            rfl_Md_pass_57 200 (wr (wr σ 18 1 0) 12 x1.toNatClampNeg 1) x1 x2 0 0 0
          else none
      else
        rfj_Md_pass_26 (wr σ 18 1 0) x1 x2
      else none
def rff_Md_open (σ : ST) (x1 : Int32) : Option (Int32 × ST) :=
  if x1 < 0 then
    some ((-1), (wr σ 18 1 0))
  else
    if x1 ≤ 2 then
      Option.bind (rff_Md_opens (wr σ 18 1 0) x1) (fun q3 =>
      some (q3, (wr σ 18 1 0)))
    else
      some ((-1), (wr σ 18 1 0))
end
section
set_option maxHeartbeats 4000000 in
set_option maxRecDepth 100000 in
theorem cur_Rb_isRepository (l : Launch) (D : va_G) (a : Nat → Nat) (k : Nat → ClassId) (hAd : ur_Ad a) (σ : ST) (x0 : Int32) (res : Int32) (h : urf_Rb_isRepository σ x0 = some res) : Met l ury_Rb_isRepository urs_Rb_isRepository urr_Rb_isRepository (ur_Pc D a k σ [.int x0]) (va_Qi (fun (r : Int32) (u : ST) => r = res ∧ u = σ) (ur_B D a k) (ur_A a)) 0 0 (ur_A a) := by
  refine Met.ofW (cc := urb_Rb_isRepository) (maxL := 1) (ret := (some .boolean)) (by decide) rfl ?_
  intro p e s m args below meth c s₁ B hml hv
  obtain ⟨rfl, hP, hK⟩ := hv
  have hx := B.exec
  have hb := B.bytes
  have hr := B.returns
  have hts : ∀ w ∈ ub_T, w.before _ s = true := fun w hw => atoms_spec (ws := urs_Rb_isRepository) B.pre w (List.mem_cons_of_mem _ hw)
  have hown : s.vm.findClass urR_Rb = some m.cls := findClass_of_methodNamed B.named
  have hlocks := B.notSynchronized
  have hS : va_S (ur_A a) s.heap s.heap [] := va_S.rf
  have hl := lv_entry ([.int x0]) (n := 1) (Nat.le_of_ble_eq_true rfl)
  rw [lg_entry_eq]
  generalize (lg_sl ([.int x0]) ++ List.replicate (1 - (lg_sl ([.int x0])).length) Slot.unset).toArray = ls at hl ⊢
  have hl : lv_has ls 1 [(0, .int x0)] := hl
  rw [urf_Rb_isRepository] at h
  refine lv_iload_n hx hb dur_Rb_isRepository_0 rfl (lv_at hl 0 rfl) ?_
  refine lv_if_lt (tgt := 13) hx hb dur_Rb_isRepository_1 (by decide) (fun c1 => ?_) (fun c1 => ?_)
  · have h := ob_t c1 h
    refine lv_iconst (v := 0) hx hb dur_Rb_isRepository_13 (by decide) ?_
    exact W.zret (ty := .boolean) (v := 0) hx hb hr rfl (fun t ht hW => ⟨⟨0, σ, rfl, ⟨Option.some.inj h, rfl⟩, by rw [ht]; exact hP, va_K.moved hW.alike hK⟩, hS.F ht⟩) hS.2.2 dur_Rb_isRepository_14
  · have h := ob_f c1 h
    refine lv_iload_n hx hb dur_Rb_isRepository_4 rfl (lv_at hl 0 rfl) ?_
    refine lv_iconst (v := 3) hx hb dur_Rb_isRepository_5 (by decide) ?_
    refine lv_icmp_ge (tgt := 13) hx hb dur_Rb_isRepository_6 (by decide) (fun c2 => ?_) (fun c2 => ?_)
    · have h := ob_t c2 h
      refine lv_iconst (v := 0) hx hb dur_Rb_isRepository_13 (by decide) ?_
      exact W.zret (ty := .boolean) (v := 0) hx hb hr rfl (fun t ht hW => ⟨⟨0, σ, rfl, ⟨Option.some.inj h, rfl⟩, by rw [ht]; exact hP, va_K.moved hW.alike hK⟩, hS.F ht⟩) hS.2.2 dur_Rb_isRepository_14
    · have h := ob_f c2 h
      refine lv_iconst (v := 1) hx hb dur_Rb_isRepository_9 (by decide) ?_
      refine lv_goto (tgt := 14) hx hb dur_Rb_isRepository_10 (by decide) ?_
      exact W.zret (ty := .boolean) (v := 1) hx hb hr rfl (fun t ht hW => ⟨⟨1, σ, rfl, ⟨Option.some.inj h, rfl⟩, by rw [ht]; exact hP, va_K.moved hW.alike hK⟩, hS.F ht⟩) hS.2.2 dur_Rb_isRepository_14
set_option maxHeartbeats 4000000 in
set_option maxRecDepth 100000 in
theorem cur_Nm_add (l : Launch) (D : va_G) (a : Nat → Nat) (k : Nat → ClassId) (hAd : ur_Ad a) (σ : ST) (x1 : Int32) (res : Int32 × ST) (h : urf_Nm_add σ x1 = some res) : Met l ury_Nm_add urs_Nm_add urr_Nm_add (ur_Pc D a k σ [.ref (a 1), .int x1]) (va_Qi (fun (r : Int32) (u : ST) => r = res.1 ∧ u = res.2) (ur_B D a k) (ur_A a)) 0 0 (ur_A a) := by
  refine Met.ofW (cc := urb_Nm_add) (maxL := 3) (ret := (some .int)) (by decide) rfl ?_
  intro p e s m args below meth c s₁ B hml hv
  obtain ⟨rfl, hP, hK⟩ := hv
  have hx := B.exec
  have hb := B.bytes
  have hr := B.returns
  have hts : ∀ w ∈ ub_T, w.before _ s = true := fun w hw => atoms_spec (ws := urs_Nm_add) B.pre w (List.mem_cons_of_mem _ hw)
  have hown : s.vm.findClass urR_Nm = some m.cls := findClass_of_methodNamed B.named
  have hlocks := B.notSynchronized
  have hS : va_S (ur_A a) s.heap s.heap [] := va_S.rf
  have hl := lv_entry ([.ref (a 1), .int x1]) (n := 3) (Nat.le_of_ble_eq_true rfl)
  rw [lg_entry_eq]
  generalize (lg_sl ([.ref (a 1), .int x1]) ++ List.replicate (3 - (lg_sl ([.ref (a 1), .int x1])).length) Slot.unset).toArray = ls at hl ⊢
  have hl : lv_has ls 3 [(0, .ref (a 1)), (1, .int x1)] := hl
  rw [urf_Nm_add] at h
  refine lv_aload_n hx hb dur_Nm_add_0 rfl (lv_at hl 0 rfl) ?_
  refine urg_Nm_9 hx hb hts hown hK hP dur_Nm_add_1 ?_
  refine lv_bipush (v := 12) hx hb dur_Nm_add_4 (by decide) ?_
  refine lv_icmp_lt (tgt := 11) hx hb dur_Nm_add_6 (by decide) (fun c1 => ?_) (fun c1 => ?_)
  · have h := ob_t c1 h
    refine lv_aload_n hx hb dur_Nm_add_11 rfl (lv_at hl 0 rfl) ?_
    refine urg_Nm_9 hx hb hts hown hK hP dur_Nm_add_12 ?_
    refine lv_istore_n (lv' := [(2, .int (σ 111 3)), (0, .ref (a 1)), (1, .int x1)]) hx hb dur_Nm_add_15 rfl hl (by decide) rfl (fun ls hl => ?_)
    refine lv_aload_n hx hb dur_Nm_add_16 rfl (lv_at hl 1 rfl) ?_
    refine lv_dup hx hb dur_Nm_add_17 rfl ?_
    refine urg_Nm_9 hx hb hts hown hK hP dur_Nm_add_18 ?_
    refine lv_iconst (v := 1) hx hb dur_Nm_add_21 (by decide) ?_
    refine lv_iadd hx hb dur_Nm_add_22 ?_
    refine urp_Nm_9 hx hb hts hown hK hP hAd hS dur_Nm_add_23 (fun H locs hP hS => ?_)
    refine lv_aload_n hx hb dur_Nm_add_26 rfl (lv_at hl 1 rfl) ?_
    refine urg_Nm_15 hx hb hts hown hK hP dur_Nm_add_27 ?_
    refine lv_iload_n hx hb dur_Nm_add_30 rfl (lv_at hl 0 rfl) ?_
    refine lv_iload_n hx hb dur_Nm_add_31 rfl (lv_at hl 2 rfl) ?_
    obtain ⟨hi2, h⟩ := ob_i h
    refine ur_iast (i := 0) hx hb hK hP hAd hS (by decide) rfl hi2 dur_Nm_add_32 (fun H locs hP hS => ?_)
    refine lv_aload_n hx hb dur_Nm_add_33 rfl (lv_at hl 1 rfl) ?_
    refine urg_Nm_19 hx hb hts hown hK hP dur_Nm_add_34 ?_
    refine lv_iload_n hx hb dur_Nm_add_37 rfl (lv_at hl 0 rfl) ?_
    refine lv_iconst (v := 1) hx hb dur_Nm_add_38 (by decide) ?_
    obtain ⟨hi3, h⟩ := ob_i h
    refine ur_iast (i := 1) hx hb hK hP hAd hS (by decide) rfl hi3 dur_Nm_add_39 (fun H locs hP hS => ?_)
    refine lv_aload_n hx hb dur_Nm_add_40 rfl (lv_at hl 1 rfl) ?_
    refine urg_Nm_22 hx hb hts hown hK hP dur_Nm_add_41 ?_
    refine lv_iload_n hx hb dur_Nm_add_44 rfl (lv_at hl 0 rfl) ?_
    refine lv_iconst (v := 0) hx hb dur_Nm_add_45 (by decide) ?_
    obtain ⟨hi4, h⟩ := ob_i h
    refine ur_iast (i := 2) hx hb hK hP hAd hS (by decide) rfl hi4 dur_Nm_add_46 (fun H locs hP hS => ?_)
    refine lv_aload_n hx hb dur_Nm_add_47 rfl (lv_at hl 1 rfl) ?_
    refine urg_Nm_25 hx hb hts hown hK hP dur_Nm_add_48 ?_
    refine lv_iload_n hx hb dur_Nm_add_51 rfl (lv_at hl 0 rfl) ?_
    refine lv_iconst (v := 2) hx hb dur_Nm_add_52 (by decide) ?_
    obtain ⟨hi5, h⟩ := ob_i h
    refine ur_iast (i := 3) hx hb hK hP hAd hS (by decide) rfl hi5 dur_Nm_add_53 (fun H locs hP hS => ?_)
    refine lv_aload_n hx hb dur_Nm_add_54 rfl (lv_at hl 1 rfl) ?_
    refine urg_Nm_28 hx hb hts hown hK hP dur_Nm_add_55 ?_
    refine lv_iload_n hx hb dur_Nm_add_58 rfl (lv_at hl 0 rfl) ?_
    refine lv_iconst (v := 1) hx hb dur_Nm_add_59 (by decide) ?_
    obtain ⟨hi6, h⟩ := ob_i h
    refine ur_iast (i := 4) hx hb hK hP hAd hS (by decide) rfl hi6 dur_Nm_add_60 (fun H locs hP hS => ?_)
    refine lv_aload_n hx hb dur_Nm_add_61 rfl (lv_at hl 1 rfl) ?_
    refine urg_Nm_31 hx hb hts hown hK hP dur_Nm_add_62 ?_
    refine lv_iload_n hx hb dur_Nm_add_65 rfl (lv_at hl 0 rfl) ?_
    refine lv_iconst (v := (-1)) hx hb dur_Nm_add_66 (by decide) ?_
    obtain ⟨hi7, h⟩ := ob_i h
    refine ur_iast (i := 5) hx hb hK hP hAd hS (by decide) rfl hi7 dur_Nm_add_67 (fun H locs hP hS => ?_)
    refine lv_aload_n hx hb dur_Nm_add_68 rfl (lv_at hl 1 rfl) ?_
    refine urg_Nm_34 hx hb hts hown hK hP dur_Nm_add_69 ?_
    refine lv_iload_n hx hb dur_Nm_add_72 rfl (lv_at hl 0 rfl) ?_
    refine lv_iconst (v := (-1)) hx hb dur_Nm_add_73 (by decide) ?_
    obtain ⟨hi8, h⟩ := ob_i h
    refine ur_iast (i := 6) hx hb hK hP hAd hS (by decide) rfl hi8 dur_Nm_add_74 (fun H locs hP hS => ?_)
    refine lv_aload_n hx hb dur_Nm_add_75 rfl (lv_at hl 1 rfl) ?_
    refine urg_Nm_37 hx hb hts hown hK hP dur_Nm_add_76 ?_
    refine lv_iload_n hx hb dur_Nm_add_79 rfl (lv_at hl 0 rfl) ?_
    refine lv_iconst (v := (-1)) hx hb dur_Nm_add_80 (by decide) ?_
    obtain ⟨hi9, h⟩ := ob_i h
    refine ur_iast (i := 7) hx hb hK hP hAd hS (by decide) rfl hi9 dur_Nm_add_81 (fun H locs hP hS => ?_)
    refine lv_aload_n hx hb dur_Nm_add_82 rfl (lv_at hl 1 rfl) ?_
    refine urg_Nm_45 hx hb hts hown hK hP dur_Nm_add_83 ?_
    refine lv_iload_n hx hb dur_Nm_add_86 rfl (lv_at hl 0 rfl) ?_
    obtain ⟨hg10, h⟩ := ob_i h
    refine ur_gald1 hx hb hK hP hg10 dur_Nm_add_87 ?_
    refine lv_iconst (v := 0) hx hb dur_Nm_add_88 (by decide) ?_
    refine lv_iconst (v := (-1)) hx hb dur_Nm_add_89 (by decide) ?_
    obtain ⟨hi11, h⟩ := ob_i h
    refine ur_iast (i := ((σ 111 3).toNatClampNeg + 26)) hx hb hK hP hAd hS (ur_glt1 hg10) (ur_gln1 hg10) hi11 dur_Nm_add_90 (fun H locs hP hS => ?_)
    refine lv_iload_n hx hb dur_Nm_add_91 rfl (lv_at hl 0 rfl) ?_
    exact W.iret (v := (σ 111 3)) hx hb hr (fun t ht hW => ⟨⟨(σ 111 3), (wr (wr (wr (wr (wr (wr (wr (wr (wr (wr σ 111 3 ((σ 111 3) + 1)) 0 (σ 111 3).toNatClampNeg x1) 1 (σ 111 3).toNatClampNeg 1) 2 (σ 111 3).toNatClampNeg 0) 3 (σ 111 3).toNatClampNeg 2) 4 (σ 111 3).toNatClampNeg 1) 5 (σ 111 3).toNatClampNeg (-1)) 6 (σ 111 3).toNatClampNeg (-1)) 7 (σ 111 3).toNatClampNeg (-1)) ((σ 111 3).toNatClampNeg + 26) ((0 : Int32).toNatClampNeg) (-1)), rfl, ⟨congrArg Prod.fst (Option.some.inj h), congrArg Prod.snd (Option.some.inj h)⟩, by rw [ht]; exact hP, va_K.moved hW.alike hK⟩, hS.F ht⟩) hS.2.2 dur_Nm_add_92
  · have h := ob_f c1 h
    refine lv_iconst (v := (-1)) hx hb dur_Nm_add_9 (by decide) ?_
    exact W.iret (v := (-1)) hx hb hr (fun t ht hW => ⟨⟨(-1), σ, rfl, ⟨congrArg Prod.fst (Option.some.inj h), congrArg Prod.snd (Option.some.inj h)⟩, by rw [ht]; exact hP, va_K.moved hW.alike hK⟩, hS.F ht⟩) hS.2.2 dur_Nm_add_10
set_option maxHeartbeats 4000000 in
set_option maxRecDepth 100000 in
theorem cur_Rb_name (l : Launch) (D : va_G) (a : Nat → Nat) (k : Nat → ClassId) (hAd : ur_Ad a) (σ : ST) (x1 : Int32) (res : Int32 × ST) (h : urf_Rb_name σ x1 = some res) : Met l ury_Rb_name urs_Rb_name urr_Rb_name (ur_Pc D a k σ [.ref (a 0), .int x1]) (va_Qi (fun (r : Int32) (u : ST) => r = res.1 ∧ u = res.2) (ur_B D a k) (ur_A a)) 0 0 (ur_A a) := by
  refine Met.ofW (cc := urb_Rb_name) (maxL := 2) (ret := (some .int)) (by decide) rfl ?_
  intro p e s m args below meth c s₁ B hml hv
  obtain ⟨rfl, hP, hK⟩ := hv
  have hx := B.exec
  have hb := B.bytes
  have hr := B.returns
  have hts : ∀ w ∈ ub_T, w.before _ s = true := fun w hw => atoms_spec (ws := urs_Rb_name) B.pre w (List.mem_cons_of_mem _ hw)
  have hown : s.vm.findClass urR_Rb = some m.cls := findClass_of_methodNamed B.named
  have hlocks := B.notSynchronized
  have hS : va_S (ur_A a) s.heap s.heap [] := va_S.rf
  have hl := lv_entry ([.ref (a 0), .int x1]) (n := 2) (Nat.le_of_ble_eq_true rfl)
  rw [lg_entry_eq]
  generalize (lg_sl ([.ref (a 0), .int x1]) ++ List.replicate (2 - (lg_sl ([.ref (a 0), .int x1])).length) Slot.unset).toArray = ls at hl ⊢
  have hl : lv_has ls 2 [(0, .ref (a 0)), (1, .int x1)] := hl
  rw [urf_Rb_name] at h
  refine lv_iload_n hx hb dur_Rb_name_0 rfl (lv_at hl 1 rfl) ?_
  obtain ⟨q1, hq1, h⟩ := ob_b h
  refine ur_cs_ir (As := [.int x1]) (rest := []) ⟨hx, hb, hml, hown, hts⟩ (cur_Rb_isRepository l D a k hAd σ x1  q1 hq1) (urc_Rb_49 hts ⟨Nat.le_of_ble_eq_true rfl, Nat.le_of_ble_eq_true rfl⟩) hK hP rfl hl.1 rfl (by decide) dur_Rb_name_1 hS (fun H locs hP hS => ?_)
  refine lv_if_ne (tgt := 9) hx hb dur_Rb_name_4 (by decide) (fun c2 => ?_) (fun c2 => ?_)
  · have h := ob_f c2 h
    refine lv_aload_n hx hb dur_Rb_name_9 rfl (lv_at hl 0 rfl) ?_
    refine urg_Rb_25 hx hb hts hown hK hP dur_Rb_name_10 ?_
    refine lv_iload_n hx hb dur_Rb_name_13 rfl (lv_at hl 1 rfl) ?_
    obtain ⟨q3, hq3, h⟩ := ob_b h
    refine ur_cv_iw (As := [.int x1]) (rest := []) ⟨hx, hb, hml, hown, hts⟩ (cur_Nm_add l D a k hAd σ x1  q3 hq3) (urc_Rb_53 hts ⟨Nat.le_of_ble_eq_true rfl, Nat.le_of_ble_eq_true rfl⟩) (ur_rc1 hK hP) hK hP rfl hl.1 rfl (by decide) dur_Rb_name_14 hS (fun H locs hP hS => ?_)
    exact W.iret (v := q3.1) hx hb hr (fun t ht hW => ⟨⟨q3.1, q3.2, rfl, ⟨congrArg Prod.fst (Option.some.inj h), congrArg Prod.snd (Option.some.inj h)⟩, by rw [ht]; exact hP, va_K.moved hW.alike hK⟩, hS.F ht⟩) hS.2.2 dur_Rb_name_17
  · have h := ob_t c2 h
    refine lv_iconst (v := (-1)) hx hb dur_Rb_name_7 (by decide) ?_
    exact W.iret (v := (-1)) hx hb hr (fun t ht hW => ⟨⟨(-1), σ, rfl, ⟨congrArg Prod.fst (Option.some.inj h), congrArg Prod.snd (Option.some.inj h)⟩, by rw [ht]; exact hP, va_K.moved hW.alike hK⟩, hS.F ht⟩) hS.2.2 dur_Rb_name_8
set_option maxHeartbeats 4000000 in
set_option maxRecDepth 100000 in
theorem cur_Nm_isKnown (l : Launch) (D : va_G) (a : Nat → Nat) (k : Nat → ClassId) (hAd : ur_Ad a) (σ : ST) (x1 : Int32) (res : Int32) (h : urf_Nm_isKnown σ x1 = some res) : Met l ury_Nm_isKnown urs_Nm_isKnown urr_Nm_isKnown (ur_Pc D a k σ [.ref (a 1), .int x1]) (va_Qi (fun (r : Int32) (u : ST) => r = res ∧ u = σ) (ur_B D a k) (ur_A a)) 0 0 (ur_A a) := by
  refine Met.ofW (cc := urb_Nm_isKnown) (maxL := 2) (ret := (some .boolean)) (by decide) rfl ?_
  intro p e s m args below meth c s₁ B hml hv
  obtain ⟨rfl, hP, hK⟩ := hv
  have hx := B.exec
  have hb := B.bytes
  have hr := B.returns
  have hts : ∀ w ∈ ub_T, w.before _ s = true := fun w hw => atoms_spec (ws := urs_Nm_isKnown) B.pre w (List.mem_cons_of_mem _ hw)
  have hown : s.vm.findClass urR_Nm = some m.cls := findClass_of_methodNamed B.named
  have hlocks := B.notSynchronized
  have hS : va_S (ur_A a) s.heap s.heap [] := va_S.rf
  have hl := lv_entry ([.ref (a 1), .int x1]) (n := 2) (Nat.le_of_ble_eq_true rfl)
  rw [lg_entry_eq]
  generalize (lg_sl ([.ref (a 1), .int x1]) ++ List.replicate (2 - (lg_sl ([.ref (a 1), .int x1])).length) Slot.unset).toArray = ls at hl ⊢
  have hl : lv_has ls 2 [(0, .ref (a 1)), (1, .int x1)] := hl
  rw [urf_Nm_isKnown] at h
  refine lv_iload_n hx hb dur_Nm_isKnown_0 rfl (lv_at hl 1 rfl) ?_
  refine lv_if_lt (tgt := 16) hx hb dur_Nm_isKnown_1 (by decide) (fun c1 => ?_) (fun c1 => ?_)
  · have h := ob_t c1 h
    refine lv_iconst (v := 0) hx hb dur_Nm_isKnown_16 (by decide) ?_
    exact W.zret (ty := .boolean) (v := 0) hx hb hr rfl (fun t ht hW => ⟨⟨0, σ, rfl, ⟨Option.some.inj h, rfl⟩, by rw [ht]; exact hP, va_K.moved hW.alike hK⟩, hS.F ht⟩) hS.2.2 dur_Nm_isKnown_17
  · have h := ob_f c1 h
    refine lv_iload_n hx hb dur_Nm_isKnown_4 rfl (lv_at hl 1 rfl) ?_
    refine lv_aload_n hx hb dur_Nm_isKnown_5 rfl (lv_at hl 0 rfl) ?_
    refine urg_Nm_9 hx hb hts hown hK hP dur_Nm_isKnown_6 ?_
    refine lv_icmp_ge (tgt := 16) hx hb dur_Nm_isKnown_9 (by decide) (fun c2 => ?_) (fun c2 => ?_)
    · have h := ob_t c2 h
      refine lv_iconst (v := 0) hx hb dur_Nm_isKnown_16 (by decide) ?_
      exact W.zret (ty := .boolean) (v := 0) hx hb hr rfl (fun t ht hW => ⟨⟨0, σ, rfl, ⟨Option.some.inj h, rfl⟩, by rw [ht]; exact hP, va_K.moved hW.alike hK⟩, hS.F ht⟩) hS.2.2 dur_Nm_isKnown_17
    · have h := ob_f c2 h
      refine lv_iconst (v := 1) hx hb dur_Nm_isKnown_12 (by decide) ?_
      refine lv_goto (tgt := 17) hx hb dur_Nm_isKnown_13 (by decide) ?_
      exact W.zret (ty := .boolean) (v := 1) hx hb hr rfl (fun t ht hW => ⟨⟨1, σ, rfl, ⟨Option.some.inj h, rfl⟩, by rw [ht]; exact hP, va_K.moved hW.alike hK⟩, hS.F ht⟩) hS.2.2 dur_Nm_isKnown_17
set_option maxHeartbeats 4000000 in
set_option maxRecDepth 100000 in
theorem cur_Nm_addVersion (l : Launch) (D : va_G) (a : Nat → Nat) (k : Nat → ClassId) (hAd : ur_Ad a) (σ : ST) (x1 : Int32) (x2 : Int32) (res : Int32 × ST) (h : urf_Nm_addVersion σ x1 x2 = some res) : Met l ury_Nm_addVersion urs_Nm_addVersion urr_Nm_addVersion (ur_Pc D a k σ [.ref (a 1), .int x1, .int x2]) (va_Qi (fun (r : Int32) (u : ST) => r = res.1 ∧ u = res.2) (ur_B D a k) (ur_A a)) 0 0 (ur_A a) := by
  refine Met.ofW (cc := urb_Nm_addVersion) (maxL := 4) (ret := (some .int)) (by decide) rfl ?_
  intro p e s m args below meth c s₁ B hml hv
  obtain ⟨rfl, hP, hK⟩ := hv
  have hx := B.exec
  have hb := B.bytes
  have hr := B.returns
  have hts : ∀ w ∈ ub_T, w.before _ s = true := fun w hw => atoms_spec (ws := urs_Nm_addVersion) B.pre w (List.mem_cons_of_mem _ hw)
  have hown : s.vm.findClass urR_Nm = some m.cls := findClass_of_methodNamed B.named
  have hlocks := B.notSynchronized
  have hS : va_S (ur_A a) s.heap s.heap [] := va_S.rf
  have hl := lv_entry ([.ref (a 1), .int x1, .int x2]) (n := 4) (Nat.le_of_ble_eq_true rfl)
  rw [lg_entry_eq]
  generalize (lg_sl ([.ref (a 1), .int x1, .int x2]) ++ List.replicate (4 - (lg_sl ([.ref (a 1), .int x1, .int x2])).length) Slot.unset).toArray = ls at hl ⊢
  have hl : lv_has ls 4 [(0, .ref (a 1)), (1, .int x1), (2, .int x2)] := hl
  rw [urf_Nm_addVersion] at h
  refine lv_aload_n hx hb dur_Nm_addVersion_0 rfl (lv_at hl 0 rfl) ?_
  refine urg_Nm_19 hx hb hts hown hK hP dur_Nm_addVersion_1 ?_
  refine lv_iload_n hx hb dur_Nm_addVersion_4 rfl (lv_at hl 1 rfl) ?_
  obtain ⟨hi1, h⟩ := ob_i h
  refine ur_iald (i := 1) hx hb hK hP (by decide) rfl hi1 dur_Nm_addVersion_5 ?_
  refine lv_istore_n (lv' := [(3, .int (σ 1 x1.toNatClampNeg)), (0, .ref (a 1)), (1, .int x1), (2, .int x2)]) hx hb dur_Nm_addVersion_6 rfl hl (by decide) rfl (fun ls hl => ?_)
  refine lv_iload_n hx hb dur_Nm_addVersion_7 rfl (lv_at hl 0 rfl) ?_
  refine lv_bipush (v := 8) hx hb dur_Nm_addVersion_8 (by decide) ?_
  refine lv_icmp_lt (tgt := 15) hx hb dur_Nm_addVersion_10 (by decide) (fun c2 => ?_) (fun c2 => ?_)
  · have h := ob_t c2 h
    refine lv_aload_n hx hb dur_Nm_addVersion_15 rfl (lv_at hl 1 rfl) ?_
    refine urg_Nm_19 hx hb hts hown hK hP dur_Nm_addVersion_16 ?_
    refine lv_iload_n hx hb dur_Nm_addVersion_19 rfl (lv_at hl 2 rfl) ?_
    refine lv_dup2_11 hx hb dur_Nm_addVersion_20 rfl rfl ?_
    obtain ⟨hi3, h⟩ := ob_i h
    refine ur_iald (i := 1) hx hb hK hP (by decide) rfl hi3 dur_Nm_addVersion_21 ?_
    refine lv_iconst (v := 1) hx hb dur_Nm_addVersion_22 (by decide) ?_
    refine lv_iadd hx hb dur_Nm_addVersion_23 ?_
    obtain ⟨hi4, h⟩ := ob_i h
    refine ur_iast (i := 1) hx hb hK hP hAd hS (by decide) rfl hi4 dur_Nm_addVersion_24 (fun H locs hP hS => ?_)
    refine lv_aload_n hx hb dur_Nm_addVersion_25 rfl (lv_at hl 1 rfl) ?_
    refine urg_Nm_42 hx hb hts hown hK hP dur_Nm_addVersion_26 ?_
    refine lv_iload_n hx hb dur_Nm_addVersion_29 rfl (lv_at hl 2 rfl) ?_
    obtain ⟨hg5, h⟩ := ob_i h
    refine ur_gald0 hx hb hK hP hg5 dur_Nm_addVersion_30 ?_
    refine lv_iload_n hx hb dur_Nm_addVersion_31 rfl (lv_at hl 0 rfl) ?_
    refine lv_iload_n hx hb dur_Nm_addVersion_32 rfl (lv_at hl 3 rfl) ?_
    obtain ⟨hi6, h⟩ := ob_i h
    refine ur_iast (i := (x1.toNatClampNeg + 14)) hx hb hK hP hAd hS (ur_glt0 hg5) (ur_gln0 hg5) hi6 dur_Nm_addVersion_33 (fun H locs hP hS => ?_)
    refine lv_aload_n hx hb dur_Nm_addVersion_34 rfl (lv_at hl 1 rfl) ?_
    refine urg_Nm_45 hx hb hts hown hK hP dur_Nm_addVersion_35 ?_
    refine lv_iload_n hx hb dur_Nm_addVersion_38 rfl (lv_at hl 2 rfl) ?_
    obtain ⟨hg7, h⟩ := ob_i h
    refine ur_gald1 hx hb hK hP hg7 dur_Nm_addVersion_39 ?_
    refine lv_iload_n hx hb dur_Nm_addVersion_40 rfl (lv_at hl 0 rfl) ?_
    refine lv_iconst (v := (-1)) hx hb dur_Nm_addVersion_41 (by decide) ?_
    obtain ⟨hi8, h⟩ := ob_i h
    refine ur_iast (i := (x1.toNatClampNeg + 26)) hx hb hK hP hAd hS (ur_glt1 hg7) (ur_gln1 hg7) hi8 dur_Nm_addVersion_42 (fun H locs hP hS => ?_)
    refine lv_iload_n hx hb dur_Nm_addVersion_43 rfl (lv_at hl 0 rfl) ?_
    exact W.iret (v := (σ 1 x1.toNatClampNeg)) hx hb hr (fun t ht hW => ⟨⟨(σ 1 x1.toNatClampNeg), (wr (wr (wr σ 1 x1.toNatClampNeg ((σ 1 x1.toNatClampNeg) + 1)) (x1.toNatClampNeg + 14) (σ 1 x1.toNatClampNeg).toNatClampNeg x2) (x1.toNatClampNeg + 26) (σ 1 x1.toNatClampNeg).toNatClampNeg (-1)), rfl, ⟨congrArg Prod.fst (Option.some.inj h), congrArg Prod.snd (Option.some.inj h)⟩, by rw [ht]; exact hP, va_K.moved hW.alike hK⟩, hS.F ht⟩) hS.2.2 dur_Nm_addVersion_44
  · have h := ob_f c2 h
    refine lv_iconst (v := (-1)) hx hb dur_Nm_addVersion_13 (by decide) ?_
    exact W.iret (v := (-1)) hx hb hr (fun t ht hW => ⟨⟨(-1), σ, rfl, ⟨congrArg Prod.fst (Option.some.inj h), congrArg Prod.snd (Option.some.inj h)⟩, by rw [ht]; exact hP, va_K.moved hW.alike hK⟩, hS.F ht⟩) hS.2.2 dur_Nm_addVersion_14
set_option maxHeartbeats 4000000 in
set_option maxRecDepth 100000 in
theorem cur_Rb_newer (l : Launch) (D : va_G) (a : Nat → Nat) (k : Nat → ClassId) (hAd : ur_Ad a) (σ : ST) (x1 : Int32) (x2 : Int32) (res : Int32 × ST) (h : urf_Rb_newer σ x1 x2 = some res) : Met l ury_Rb_newer urs_Rb_newer urr_Rb_newer (ur_Pc D a k σ [.ref (a 0), .int x1, .int x2]) (va_Qi (fun (r : Int32) (u : ST) => r = res.1 ∧ u = res.2) (ur_B D a k) (ur_A a)) 0 0 (ur_A a) := by
  refine Met.ofW (cc := urb_Rb_newer) (maxL := 3) (ret := (some .int)) (by decide) rfl ?_
  intro p e s m args below meth c s₁ B hml hv
  obtain ⟨rfl, hP, hK⟩ := hv
  have hx := B.exec
  have hb := B.bytes
  have hr := B.returns
  have hts : ∀ w ∈ ub_T, w.before _ s = true := fun w hw => atoms_spec (ws := urs_Rb_newer) B.pre w (List.mem_cons_of_mem _ hw)
  have hown : s.vm.findClass urR_Rb = some m.cls := findClass_of_methodNamed B.named
  have hlocks := B.notSynchronized
  have hS : va_S (ur_A a) s.heap s.heap [] := va_S.rf
  have hl := lv_entry ([.ref (a 0), .int x1, .int x2]) (n := 3) (Nat.le_of_ble_eq_true rfl)
  rw [lg_entry_eq]
  generalize (lg_sl ([.ref (a 0), .int x1, .int x2]) ++ List.replicate (3 - (lg_sl ([.ref (a 0), .int x1, .int x2])).length) Slot.unset).toArray = ls at hl ⊢
  have hl : lv_has ls 3 [(0, .ref (a 0)), (1, .int x1), (2, .int x2)] := hl
  rw [urf_Rb_newer] at h
  refine lv_aload_n hx hb dur_Rb_newer_0 rfl (lv_at hl 0 rfl) ?_
  refine urg_Rb_25 hx hb hts hown hK hP dur_Rb_newer_1 ?_
  refine lv_iload_n hx hb dur_Rb_newer_4 rfl (lv_at hl 1 rfl) ?_
  obtain ⟨q1, hq1, h⟩ := ob_b h
  refine ur_cv_ir (As := [.int x1]) (rest := []) ⟨hx, hb, hml, hown, hts⟩ (cur_Nm_isKnown l D a k hAd σ x1  q1 hq1) (urc_Rb_57 hts ⟨Nat.le_of_ble_eq_true rfl, Nat.le_of_ble_eq_true rfl⟩) (ur_rc1 hK hP) hK hP rfl hl.1 rfl (by decide) dur_Rb_newer_5 hS (fun H locs hP hS => ?_)
  refine lv_if_eq (tgt := 20) hx hb dur_Rb_newer_8 (by decide) (fun c2 => ?_) (fun c2 => ?_)
  · have h := ob_t c2 h
    refine lv_iconst (v := (-1)) hx hb dur_Rb_newer_20 (by decide) ?_
    exact W.iret (v := (-1)) hx hb hr (fun t ht hW => ⟨⟨(-1), σ, rfl, ⟨congrArg Prod.fst (Option.some.inj h), congrArg Prod.snd (Option.some.inj h)⟩, by rw [ht]; exact hP, va_K.moved hW.alike hK⟩, hS.F ht⟩) hS.2.2 dur_Rb_newer_21
  · have h := ob_f c2 h
    refine lv_iload_n hx hb dur_Rb_newer_11 rfl (lv_at hl 2 rfl) ?_
    refine lv_if_lt (tgt := 20) hx hb dur_Rb_newer_12 (by decide) (fun c3 => ?_) (fun c3 => ?_)
    · have h := ob_t c3 h
      refine lv_iconst (v := (-1)) hx hb dur_Rb_newer_20 (by decide) ?_
      exact W.iret (v := (-1)) hx hb hr (fun t ht hW => ⟨⟨(-1), σ, rfl, ⟨congrArg Prod.fst (Option.some.inj h), congrArg Prod.snd (Option.some.inj h)⟩, by rw [ht]; exact hP, va_K.moved hW.alike hK⟩, hS.F ht⟩) hS.2.2 dur_Rb_newer_21
    · have h := ob_f c3 h
      refine lv_iload_n hx hb dur_Rb_newer_15 rfl (lv_at hl 2 rfl) ?_
      refine lv_iconst (v := 3) hx hb dur_Rb_newer_16 (by decide) ?_
      refine lv_icmp_lt (tgt := 22) hx hb dur_Rb_newer_17 (by decide) (fun c4 => ?_) (fun c4 => ?_)
      · have h := ob_t c4 h
        refine lv_aload_n hx hb dur_Rb_newer_22 rfl (lv_at hl 0 rfl) ?_
        refine urg_Rb_25 hx hb hts hown hK hP dur_Rb_newer_23 ?_
        refine lv_iload_n hx hb dur_Rb_newer_26 rfl (lv_at hl 1 rfl) ?_
        refine lv_iload_n hx hb dur_Rb_newer_27 rfl (lv_at hl 2 rfl) ?_
        obtain ⟨q5, hq5, h⟩ := ob_b h
        refine ur_cv_iw (As := [.int x1, .int x2]) (rest := []) ⟨hx, hb, hml, hown, hts⟩ (cur_Nm_addVersion l D a k hAd σ x1 x2  q5 hq5) (urc_Rb_60 hts ⟨Nat.le_of_ble_eq_true rfl, Nat.le_of_ble_eq_true rfl⟩) (ur_rc1 hK hP) hK hP rfl hl.1 rfl (by decide) dur_Rb_newer_28 hS (fun H locs hP hS => ?_)
        exact W.iret (v := q5.1) hx hb hr (fun t ht hW => ⟨⟨q5.1, q5.2, rfl, ⟨congrArg Prod.fst (Option.some.inj h), congrArg Prod.snd (Option.some.inj h)⟩, by rw [ht]; exact hP, va_K.moved hW.alike hK⟩, hS.F ht⟩) hS.2.2 dur_Rb_newer_31
      · have h := ob_f c4 h
        refine lv_iconst (v := (-1)) hx hb dur_Rb_newer_20 (by decide) ?_
        exact W.iret (v := (-1)) hx hb hr (fun t ht hW => ⟨⟨(-1), σ, rfl, ⟨congrArg Prod.fst (Option.some.inj h), congrArg Prod.snd (Option.some.inj h)⟩, by rw [ht]; exact hP, va_K.moved hW.alike hK⟩, hS.F ht⟩) hS.2.2 dur_Rb_newer_21
set_option maxHeartbeats 4000000 in
set_option maxRecDepth 100000 in
theorem cur_Nm_hasVersion (l : Launch) (D : va_G) (a : Nat → Nat) (k : Nat → ClassId) (hAd : ur_Ad a) (σ : ST) (x1 : Int32) (x2 : Int32) (res : Int32) (h : urf_Nm_hasVersion σ x1 x2 = some res) : Met l ury_Nm_hasVersion urs_Nm_hasVersion urr_Nm_hasVersion (ur_Pc D a k σ [.ref (a 1), .int x1, .int x2]) (va_Qi (fun (r : Int32) (u : ST) => r = res ∧ u = σ) (ur_B D a k) (ur_A a)) 0 0 (ur_A a) := by
  refine Met.ofW (cc := urb_Nm_hasVersion) (maxL := 3) (ret := (some .boolean)) (by decide) rfl ?_
  intro p e s m args below meth c s₁ B hml hv
  obtain ⟨rfl, hP, hK⟩ := hv
  have hx := B.exec
  have hb := B.bytes
  have hr := B.returns
  have hts : ∀ w ∈ ub_T, w.before _ s = true := fun w hw => atoms_spec (ws := urs_Nm_hasVersion) B.pre w (List.mem_cons_of_mem _ hw)
  have hown : s.vm.findClass urR_Nm = some m.cls := findClass_of_methodNamed B.named
  have hlocks := B.notSynchronized
  have hS : va_S (ur_A a) s.heap s.heap [] := va_S.rf
  have hl := lv_entry ([.ref (a 1), .int x1, .int x2]) (n := 3) (Nat.le_of_ble_eq_true rfl)
  rw [lg_entry_eq]
  generalize (lg_sl ([.ref (a 1), .int x1, .int x2]) ++ List.replicate (3 - (lg_sl ([.ref (a 1), .int x1, .int x2])).length) Slot.unset).toArray = ls at hl ⊢
  have hl : lv_has ls 3 [(0, .ref (a 1)), (1, .int x1), (2, .int x2)] := hl
  rw [urf_Nm_hasVersion] at h
  refine lv_aload_n hx hb dur_Nm_hasVersion_0 rfl (lv_at hl 0 rfl) ?_
  refine lv_iload_n hx hb dur_Nm_hasVersion_1 rfl (lv_at hl 1 rfl) ?_
  obtain ⟨q1, hq1, h⟩ := ob_b h
  refine ur_cv_ir (As := [.int x1]) (rest := []) ⟨hx, hb, hml, hown, hts⟩ (cur_Nm_isKnown l D a k hAd σ x1  q1 hq1) (urc_Nm_51 hts ⟨Nat.le_of_ble_eq_true rfl, Nat.le_of_ble_eq_true rfl⟩) (ur_rc1 hK hP) hK hP rfl hl.1 rfl (by decide) dur_Nm_hasVersion_2 hS (fun H locs hP hS => ?_)
  refine lv_if_eq (tgt := 26) hx hb dur_Nm_hasVersion_5 (by decide) (fun c2 => ?_) (fun c2 => ?_)
  · have h := ob_t c2 h
    refine lv_iconst (v := 0) hx hb dur_Nm_hasVersion_26 (by decide) ?_
    exact W.zret (ty := .boolean) (v := 0) hx hb hr rfl (fun t ht hW => ⟨⟨0, σ, rfl, ⟨Option.some.inj h, rfl⟩, by rw [ht]; exact hP, va_K.moved hW.alike hK⟩, hS.F ht⟩) hS.2.2 dur_Nm_hasVersion_27
  · have h := ob_f c2 h
    refine lv_iload_n hx hb dur_Nm_hasVersion_8 rfl (lv_at hl 2 rfl) ?_
    refine lv_if_lt (tgt := 26) hx hb dur_Nm_hasVersion_9 (by decide) (fun c3 => ?_) (fun c3 => ?_)
    · have h := ob_t c3 h
      refine lv_iconst (v := 0) hx hb dur_Nm_hasVersion_26 (by decide) ?_
      exact W.zret (ty := .boolean) (v := 0) hx hb hr rfl (fun t ht hW => ⟨⟨0, σ, rfl, ⟨Option.some.inj h, rfl⟩, by rw [ht]; exact hP, va_K.moved hW.alike hK⟩, hS.F ht⟩) hS.2.2 dur_Nm_hasVersion_27
    · have h := ob_f c3 h
      refine lv_iload_n hx hb dur_Nm_hasVersion_12 rfl (lv_at hl 2 rfl) ?_
      refine lv_aload_n hx hb dur_Nm_hasVersion_13 rfl (lv_at hl 0 rfl) ?_
      refine urg_Nm_19 hx hb hts hown hK hP dur_Nm_hasVersion_14 ?_
      refine lv_iload_n hx hb dur_Nm_hasVersion_17 rfl (lv_at hl 1 rfl) ?_
      obtain ⟨hi4, h⟩ := ob_i h
      refine ur_iald (i := 1) hx hb hK hP (by decide) rfl hi4 dur_Nm_hasVersion_18 ?_
      refine lv_icmp_ge (tgt := 26) hx hb dur_Nm_hasVersion_19 (by decide) (fun c5 => ?_) (fun c5 => ?_)
      · have h := ob_t c5 h
        refine lv_iconst (v := 0) hx hb dur_Nm_hasVersion_26 (by decide) ?_
        exact W.zret (ty := .boolean) (v := 0) hx hb hr rfl (fun t ht hW => ⟨⟨0, σ, rfl, ⟨Option.some.inj h, rfl⟩, by rw [ht]; exact hP, va_K.moved hW.alike hK⟩, hS.F ht⟩) hS.2.2 dur_Nm_hasVersion_27
      · have h := ob_f c5 h
        refine lv_iconst (v := 1) hx hb dur_Nm_hasVersion_22 (by decide) ?_
        refine lv_goto (tgt := 27) hx hb dur_Nm_hasVersion_23 (by decide) ?_
        exact W.zret (ty := .boolean) (v := 1) hx hb hr rfl (fun t ht hW => ⟨⟨1, σ, rfl, ⟨Option.some.inj h, rfl⟩, by rw [ht]; exact hP, va_K.moved hW.alike hK⟩, hS.F ht⟩) hS.2.2 dur_Nm_hasVersion_27
set_option maxHeartbeats 4000000 in
set_option maxRecDepth 100000 in
theorem cur_Rb_needs (l : Launch) (D : va_G) (a : Nat → Nat) (k : Nat → ClassId) (hAd : ur_Ad a) (σ : ST) (x1 : Int32) (x2 : Int32) (x3 : Int32) (x4 : Int32) (res : Int32 × ST) (h : urf_Rb_needs σ x1 x2 x3 x4 = some res) : Met l ury_Rb_needs urs_Rb_needs urr_Rb_needs (ur_Pc D a k σ [.ref (a 0), .int x1, .int x2, .int x3, .int x4]) (va_Qi (fun (r : Int32) (u : ST) => r = res.1 ∧ u = res.2) (ur_B D a k) (ur_A a)) 0 0 (ur_A a) := by
  refine Met.ofW (cc := urb_Rb_needs) (maxL := 5) (ret := (some .boolean)) (by decide) rfl ?_
  intro p e s m args below meth c s₁ B hml hv
  obtain ⟨rfl, hP, hK⟩ := hv
  have hx := B.exec
  have hb := B.bytes
  have hr := B.returns
  have hts : ∀ w ∈ ub_T, w.before _ s = true := fun w hw => atoms_spec (ws := urs_Rb_needs) B.pre w (List.mem_cons_of_mem _ hw)
  have hown : s.vm.findClass urR_Rb = some m.cls := findClass_of_methodNamed B.named
  have hlocks := B.notSynchronized
  have hS : va_S (ur_A a) s.heap s.heap [] := va_S.rf
  have hl := lv_entry ([.ref (a 0), .int x1, .int x2, .int x3, .int x4]) (n := 5) (Nat.le_of_ble_eq_true rfl)
  rw [lg_entry_eq]
  generalize (lg_sl ([.ref (a 0), .int x1, .int x2, .int x3, .int x4]) ++ List.replicate (5 - (lg_sl ([.ref (a 0), .int x1, .int x2, .int x3, .int x4])).length) Slot.unset).toArray = ls at hl ⊢
  have hl : lv_has ls 5 [(0, .ref (a 0)), (1, .int x1), (2, .int x2), (3, .int x3), (4, .int x4)] := hl
  have jp28 : ∀ (σ : ST) (y1 : Int32) (y2 : Int32) (y3 : Int32) (y4 : Int32) (H : Heap) (locs : List Loc) (ls : Array Slot), urj_Rb_needs_28 σ y1 y2 y3 y4 = some res → ur_P D a k σ H → va_S (ur_A a) s.heap H locs → lv_has ls 5 [(0, .ref (a 0)), (1, .int y1), (2, .int y2), (3, .int y3), (4, .int y4)] → W p l e (headSpec urs_Rb_needs urr_Rb_needs).room s m (([.ref (a 0), .int x1, .int x2, .int x3, .int x4] : List Value)).toArray below meth c H locs 0 0 (MQ below (va_Qi (fun (r : Int32) (u : ST) => r = res.1 ∧ u = res.2) (ur_B D a k) (ur_A a)) (([.ref (a 0), .int x1, .int x2, .int x3, .int x4] : List Value)).toArray s 0 0 (ur_A a)) (F0 m 28 ls []) := by
    intro σ y1 y2 y3 y4 H locs ls h hP hS hl
    rw [urj_Rb_needs_28] at h
    refine lv_iconst (v := 0) hx hb dur_Rb_needs_28 (by decide) ?_
    exact W.zret (ty := .boolean) (v := 0) hx hb hr rfl (fun t ht hW => ⟨⟨0, σ, rfl, ⟨congrArg Prod.fst (Option.some.inj h), congrArg Prod.snd (Option.some.inj h)⟩, by rw [ht]; exact hP, va_K.moved hW.alike hK⟩, hS.F ht⟩) hS.2.2 dur_Rb_needs_29
  rw [urf_Rb_needs] at h
  refine lv_aload_n hx hb dur_Rb_needs_0 rfl (lv_at hl 0 rfl) ?_
  refine urg_Rb_25 hx hb hts hown hK hP dur_Rb_needs_1 ?_
  refine lv_iload_n hx hb dur_Rb_needs_4 rfl (lv_at hl 1 rfl) ?_
  refine lv_iload_n hx hb dur_Rb_needs_5 rfl (lv_at hl 2 rfl) ?_
  obtain ⟨q1, hq1, h⟩ := ob_b h
  refine ur_cv_ir (As := [.int x1, .int x2]) (rest := []) ⟨hx, hb, hml, hown, hts⟩ (cur_Nm_hasVersion l D a k hAd σ x1 x2  q1 hq1) (urc_Rb_63 hts ⟨Nat.le_of_ble_eq_true rfl, Nat.le_of_ble_eq_true rfl⟩) (ur_rc1 hK hP) hK hP rfl hl.1 rfl (by decide) dur_Rb_needs_6 hS (fun H locs hP hS => ?_)
  refine lv_if_eq (tgt := 28) hx hb dur_Rb_needs_9 (by decide) (fun c2 => ?_) (fun c2 => ?_)
  · have h := ob_t c2 h
    exact jp28 σ x1 x2 x3 x4 _ _ _ h hP hS (lv_sub hl [0, 1, 2, 3, 4] rfl)
  · have h := ob_f c2 h
    refine lv_aload_n hx hb dur_Rb_needs_12 rfl (lv_at hl 0 rfl) ?_
    refine urg_Rb_25 hx hb hts hown hK hP dur_Rb_needs_13 ?_
    refine lv_iload_n hx hb dur_Rb_needs_16 rfl (lv_at hl 3 rfl) ?_
    obtain ⟨q3, hq3, h⟩ := ob_b h
    refine ur_cv_ir (As := [.int x3]) (rest := []) ⟨hx, hb, hml, hown, hts⟩ (cur_Nm_isKnown l D a k hAd σ x3  q3 hq3) (urc_Rb_57 hts ⟨Nat.le_of_ble_eq_true rfl, Nat.le_of_ble_eq_true rfl⟩) (ur_rc1 hK hP) hK hP rfl hl.1 rfl (by decide) dur_Rb_needs_17 hS (fun H locs hP hS => ?_)
    refine lv_if_eq (tgt := 28) hx hb dur_Rb_needs_20 (by decide) (fun c4 => ?_) (fun c4 => ?_)
    · have h := ob_t c4 h
      exact jp28 σ x1 x2 x3 x4 _ _ _ h hP hS (lv_sub hl [0, 1, 2, 3, 4] rfl)
    · have h := ob_f c4 h
      refine lv_iload_n hx hb dur_Rb_needs_23 rfl (lv_at hl 1 rfl) ?_
      refine lv_iload_n hx hb dur_Rb_needs_24 rfl (lv_at hl 3 rfl) ?_
      refine lv_icmp_ne (tgt := 30) hx hb dur_Rb_needs_25 (by decide) (fun c5 => ?_) (fun c5 => ?_)
      · have h := ob_f c5 h
        refine lv_iload hx hb dur_Rb_needs_30 (lv_at hl 4 rfl) ?_
        refine lv_if_lt (tgt := 42) hx hb dur_Rb_needs_32 (by decide) (fun c6 => ?_) (fun c6 => ?_)
        · have h := ob_t c6 h
          refine lv_iconst (v := 0) hx hb dur_Rb_needs_42 (by decide) ?_
          exact W.zret (ty := .boolean) (v := 0) hx hb hr rfl (fun t ht hW => ⟨⟨0, σ, rfl, ⟨congrArg Prod.fst (Option.some.inj h), congrArg Prod.snd (Option.some.inj h)⟩, by rw [ht]; exact hP, va_K.moved hW.alike hK⟩, hS.F ht⟩) hS.2.2 dur_Rb_needs_43
        · have h := ob_f c6 h
          refine lv_iload hx hb dur_Rb_needs_35 (lv_at hl 4 rfl) ?_
          refine lv_bipush (v := 8) hx hb dur_Rb_needs_37 (by decide) ?_
          refine lv_icmp_lt (tgt := 44) hx hb dur_Rb_needs_39 (by decide) (fun c7 => ?_) (fun c7 => ?_)
          · have h := ob_t c7 h
            refine lv_aload_n hx hb dur_Rb_needs_44 rfl (lv_at hl 0 rfl) ?_
            refine urg_Rb_25 hx hb hts hown hK hP dur_Rb_needs_45 ?_
            refine urg_Rb_67 hx hb hts hown hK hP dur_Rb_needs_48 ?_
            refine lv_iload_n hx hb dur_Rb_needs_51 rfl (lv_at hl 1 rfl) ?_
            obtain ⟨hg8, h⟩ := ob_i h
            refine ur_gald1 hx hb hK hP hg8 dur_Rb_needs_52 ?_
            refine lv_iload_n hx hb dur_Rb_needs_53 rfl (lv_at hl 2 rfl) ?_
            refine lv_iload_n hx hb dur_Rb_needs_54 rfl (lv_at hl 3 rfl) ?_
            obtain ⟨hi9, h⟩ := ob_i h
            refine ur_iast (i := (x1.toNatClampNeg + 26)) hx hb hK hP hAd hS (ur_glt1 hg8) (ur_gln1 hg8) hi9 dur_Rb_needs_55 (fun H locs hP hS => ?_)
            refine lv_aload_n hx hb dur_Rb_needs_56 rfl (lv_at hl 0 rfl) ?_
            refine urg_Rb_25 hx hb hts hown hK hP dur_Rb_needs_57 ?_
            refine urg_Rb_71 hx hb hts hown hK hP dur_Rb_needs_60 ?_
            refine lv_iload_n hx hb dur_Rb_needs_63 rfl (lv_at hl 1 rfl) ?_
            obtain ⟨hg10, h⟩ := ob_i h
            refine ur_gald2 hx hb hK hP hg10 dur_Rb_needs_64 ?_
            refine lv_iload_n hx hb dur_Rb_needs_65 rfl (lv_at hl 2 rfl) ?_
            refine lv_iload hx hb dur_Rb_needs_66 (lv_at hl 4 rfl) ?_
            obtain ⟨hi11, h⟩ := ob_i h
            refine ur_iast (i := (x1.toNatClampNeg + 38)) hx hb hK hP hAd hS (ur_glt2 hg10) (ur_gln2 hg10) hi11 dur_Rb_needs_68 (fun H locs hP hS => ?_)
            refine lv_iconst (v := 1) hx hb dur_Rb_needs_69 (by decide) ?_
            exact W.zret (ty := .boolean) (v := 1) hx hb hr rfl (fun t ht hW => ⟨⟨1, (wr (wr σ (x1.toNatClampNeg + 26) x2.toNatClampNeg x3) (x1.toNatClampNeg + 38) x2.toNatClampNeg x4), rfl, ⟨congrArg Prod.fst (Option.some.inj h), congrArg Prod.snd (Option.some.inj h)⟩, by rw [ht]; exact hP, va_K.moved hW.alike hK⟩, hS.F ht⟩) hS.2.2 dur_Rb_needs_70
          · have h := ob_f c7 h
            refine lv_iconst (v := 0) hx hb dur_Rb_needs_42 (by decide) ?_
            exact W.zret (ty := .boolean) (v := 0) hx hb hr rfl (fun t ht hW => ⟨⟨0, σ, rfl, ⟨congrArg Prod.fst (Option.some.inj h), congrArg Prod.snd (Option.some.inj h)⟩, by rw [ht]; exact hP, va_K.moved hW.alike hK⟩, hS.F ht⟩) hS.2.2 dur_Rb_needs_43
      · have h := ob_t c5 h
        exact jp28 σ x1 x2 x3 x4 _ _ _ h hP hS (lv_sub hl [0, 1, 2, 3, 4] rfl)
set_option maxHeartbeats 4000000 in
set_option maxRecDepth 100000 in
theorem cur_Rb_rule (l : Launch) (D : va_G) (a : Nat → Nat) (k : Nat → ClassId) (hAd : ur_Ad a) (σ : ST) (x1 : Int32) (x2 : Int32) (x3 : Int32) (x4 : Int32) (res : Int32 × ST) (h : urf_Rb_rule σ x1 x2 x3 x4 = some res) : Met l ury_Rb_rule urs_Rb_rule urr_Rb_rule (ur_Pc D a k σ [.ref (a 0), .int x1, .int x2, .int x3, .int x4]) (va_Qi (fun (r : Int32) (u : ST) => r = res.1 ∧ u = res.2) (ur_B D a k) (ur_A a)) 0 0 (ur_A a) := by
  refine Met.ofW (cc := urb_Rb_rule) (maxL := 5) (ret := (some .boolean)) (by decide) rfl ?_
  intro p e s m args below meth c s₁ B hml hv
  obtain ⟨rfl, hP, hK⟩ := hv
  have hx := B.exec
  have hb := B.bytes
  have hr := B.returns
  have hts : ∀ w ∈ ub_T, w.before _ s = true := fun w hw => atoms_spec (ws := urs_Rb_rule) B.pre w (List.mem_cons_of_mem _ hw)
  have hown : s.vm.findClass urR_Rb = some m.cls := findClass_of_methodNamed B.named
  have hlocks := B.notSynchronized
  have hS : va_S (ur_A a) s.heap s.heap [] := va_S.rf
  have hl := lv_entry ([.ref (a 0), .int x1, .int x2, .int x3, .int x4]) (n := 5) (Nat.le_of_ble_eq_true rfl)
  rw [lg_entry_eq]
  generalize (lg_sl ([.ref (a 0), .int x1, .int x2, .int x3, .int x4]) ++ List.replicate (5 - (lg_sl ([.ref (a 0), .int x1, .int x2, .int x3, .int x4])).length) Slot.unset).toArray = ls at hl ⊢
  have hl : lv_has ls 5 [(0, .ref (a 0)), (1, .int x1), (2, .int x2), (3, .int x3), (4, .int x4)] := hl
  have jp21 : ∀ (σ : ST) (y1 : Int32) (y2 : Int32) (y3 : Int32) (y4 : Int32) (H : Heap) (locs : List Loc) (ls : Array Slot), urj_Rb_rule_21 σ y1 y2 y3 y4 = some res → ur_P D a k σ H → va_S (ur_A a) s.heap H locs → lv_has ls 5 [(0, .ref (a 0)), (1, .int y1), (2, .int y2), (3, .int y3), (4, .int y4)] → W p l e (headSpec urs_Rb_rule urr_Rb_rule).room s m (([.ref (a 0), .int x1, .int x2, .int x3, .int x4] : List Value)).toArray below meth c H locs 0 0 (MQ below (va_Qi (fun (r : Int32) (u : ST) => r = res.1 ∧ u = res.2) (ur_B D a k) (ur_A a)) (([.ref (a 0), .int x1, .int x2, .int x3, .int x4] : List Value)).toArray s 0 0 (ur_A a)) (F0 m 21 ls []) := by
    intro σ y1 y2 y3 y4 H locs ls h hP hS hl
    rw [urj_Rb_rule_21] at h
    refine lv_iconst (v := 0) hx hb dur_Rb_rule_21 (by decide) ?_
    exact W.zret (ty := .boolean) (v := 0) hx hb hr rfl (fun t ht hW => ⟨⟨0, σ, rfl, ⟨congrArg Prod.fst (Option.some.inj h), congrArg Prod.snd (Option.some.inj h)⟩, by rw [ht]; exact hP, va_K.moved hW.alike hK⟩, hS.F ht⟩) hS.2.2 dur_Rb_rule_22
  have jp47 : ∀ (σ : ST) (y1 : Int32) (y2 : Int32) (y3 : Int32) (y4 : Int32) (H : Heap) (locs : List Loc) (ls : Array Slot), urj_Rb_rule_47 σ y1 y2 y3 y4 = some res → ur_P D a k σ H → va_S (ur_A a) s.heap H locs → lv_has ls 5 [(0, .ref (a 0)), (1, .int y1), (2, .int y2), (3, .int y3), (4, .int y4)] → W p l e (headSpec urs_Rb_rule urr_Rb_rule).room s m (([.ref (a 0), .int x1, .int x2, .int x3, .int x4] : List Value)).toArray below meth c H locs 0 0 (MQ below (va_Qi (fun (r : Int32) (u : ST) => r = res.1 ∧ u = res.2) (ur_B D a k) (ur_A a)) (([.ref (a 0), .int x1, .int x2, .int x3, .int x4] : List Value)).toArray s 0 0 (ur_A a)) (F0 m 47 ls []) := by
    intro σ y1 y2 y3 y4 H locs ls h hP hS hl
    rw [urj_Rb_rule_47] at h
    refine lv_iconst (v := 0) hx hb dur_Rb_rule_47 (by decide) ?_
    exact W.zret (ty := .boolean) (v := 0) hx hb hr rfl (fun t ht hW => ⟨⟨0, σ, rfl, ⟨congrArg Prod.fst (Option.some.inj h), congrArg Prod.snd (Option.some.inj h)⟩, by rw [ht]; exact hP, va_K.moved hW.alike hK⟩, hS.F ht⟩) hS.2.2 dur_Rb_rule_48
  rw [urf_Rb_rule] at h
  refine lv_aload_n hx hb dur_Rb_rule_0 rfl (lv_at hl 0 rfl) ?_
  refine urg_Rb_25 hx hb hts hown hK hP dur_Rb_rule_1 ?_
  refine lv_iload_n hx hb dur_Rb_rule_4 rfl (lv_at hl 1 rfl) ?_
  obtain ⟨q1, hq1, h⟩ := ob_b h
  refine ur_cv_ir (As := [.int x1]) (rest := []) ⟨hx, hb, hml, hown, hts⟩ (cur_Nm_isKnown l D a k hAd σ x1  q1 hq1) (urc_Rb_57 hts ⟨Nat.le_of_ble_eq_true rfl, Nat.le_of_ble_eq_true rfl⟩) (ur_rc1 hK hP) hK hP rfl hl.1 rfl (by decide) dur_Rb_rule_5 hS (fun H locs hP hS => ?_)
  refine lv_if_eq (tgt := 21) hx hb dur_Rb_rule_8 (by decide) (fun c2 => ?_) (fun c2 => ?_)
  · have h := ob_t c2 h
    exact jp21 σ x1 x2 x3 x4 _ _ _ h hP hS (lv_sub hl [0, 1, 2, 3, 4] rfl)
  · have h := ob_f c2 h
    refine lv_iload_n hx hb dur_Rb_rule_11 rfl (lv_at hl 2 rfl) ?_
    refine lv_iconst (v := (-1)) hx hb dur_Rb_rule_12 (by decide) ?_
    refine lv_icmp_lt (tgt := 21) hx hb dur_Rb_rule_13 (by decide) (fun c3 => ?_) (fun c3 => ?_)
    · have h := ob_t c3 h
      exact jp21 σ x1 x2 x3 x4 _ _ _ h hP hS (lv_sub hl [0, 1, 2, 3, 4] rfl)
    · have h := ob_f c3 h
      refine lv_iload_n hx hb dur_Rb_rule_16 rfl (lv_at hl 2 rfl) ?_
      refine lv_iconst (v := 3) hx hb dur_Rb_rule_17 (by decide) ?_
      refine lv_icmp_lt (tgt := 23) hx hb dur_Rb_rule_18 (by decide) (fun c4 => ?_) (fun c4 => ?_)
      · have h := ob_t c4 h
        refine lv_iload_n hx hb dur_Rb_rule_23 rfl (lv_at hl 3 rfl) ?_
        refine lv_iconst (v := 1) hx hb dur_Rb_rule_24 (by decide) ?_
        refine lv_icmp_lt (tgt := 47) hx hb dur_Rb_rule_25 (by decide) (fun c5 => ?_) (fun c5 => ?_)
        · have h := ob_t c5 h
          exact jp47 σ x1 x2 x3 x4 _ _ _ h hP hS (lv_sub hl [0, 1, 2, 3, 4] rfl)
        · have h := ob_f c5 h
          refine lv_iload_n hx hb dur_Rb_rule_28 rfl (lv_at hl 3 rfl) ?_
          refine lv_sipush (v := 1000) hx hb dur_Rb_rule_29 (by decide) ?_
          refine lv_icmp_gt (tgt := 47) hx hb dur_Rb_rule_32 (by decide) (fun c6 => ?_) (fun c6 => ?_)
          · have h := ob_t c6 h
            exact jp47 σ x1 x2 x3 x4 _ _ _ h hP hS (lv_sub hl [0, 1, 2, 3, 4] rfl)
          · have h := ob_f c6 h
            refine lv_iload hx hb dur_Rb_rule_35 (lv_at hl 4 rfl) ?_
            refine lv_iconst (v := (-1)) hx hb dur_Rb_rule_37 (by decide) ?_
            refine lv_icmp_lt (tgt := 47) hx hb dur_Rb_rule_38 (by decide) (fun c7 => ?_) (fun c7 => ?_)
            · have h := ob_t c7 h
              exact jp47 σ x1 x2 x3 x4 _ _ _ h hP hS (lv_sub hl [0, 1, 2, 3, 4] rfl)
            · have h := ob_f c7 h
              refine lv_iload hx hb dur_Rb_rule_41 (lv_at hl 4 rfl) ?_
              refine lv_iconst (v := 4) hx hb dur_Rb_rule_43 (by decide) ?_
              refine lv_icmp_lt (tgt := 49) hx hb dur_Rb_rule_44 (by decide) (fun c8 => ?_) (fun c8 => ?_)
              · have h := ob_t c8 h
                refine lv_aload_n hx hb dur_Rb_rule_49 rfl (lv_at hl 0 rfl) ?_
                refine urg_Rb_25 hx hb hts hown hK hP dur_Rb_rule_50 ?_
                refine urg_Rb_74 hx hb hts hown hK hP dur_Rb_rule_53 ?_
                refine lv_iload_n hx hb dur_Rb_rule_56 rfl (lv_at hl 1 rfl) ?_
                refine lv_iload_n hx hb dur_Rb_rule_57 rfl (lv_at hl 2 rfl) ?_
                obtain ⟨hi9, h⟩ := ob_i h
                refine ur_iast (i := 3) hx hb hK hP hAd hS (by decide) rfl hi9 dur_Rb_rule_58 (fun H locs hP hS => ?_)
                refine lv_aload_n hx hb dur_Rb_rule_59 rfl (lv_at hl 0 rfl) ?_
                refine urg_Rb_25 hx hb hts hown hK hP dur_Rb_rule_60 ?_
                refine urg_Rb_78 hx hb hts hown hK hP dur_Rb_rule_63 ?_
                refine lv_iload_n hx hb dur_Rb_rule_66 rfl (lv_at hl 1 rfl) ?_
                refine lv_iload_n hx hb dur_Rb_rule_67 rfl (lv_at hl 3 rfl) ?_
                obtain ⟨hi10, h⟩ := ob_i h
                refine ur_iast (i := 4) hx hb hK hP hAd hS (by decide) rfl hi10 dur_Rb_rule_68 (fun H locs hP hS => ?_)
                refine lv_aload_n hx hb dur_Rb_rule_69 rfl (lv_at hl 0 rfl) ?_
                refine urg_Rb_25 hx hb hts hown hK hP dur_Rb_rule_70 ?_
                refine urg_Rb_81 hx hb hts hown hK hP dur_Rb_rule_73 ?_
                refine lv_iload_n hx hb dur_Rb_rule_76 rfl (lv_at hl 1 rfl) ?_
                refine lv_iload hx hb dur_Rb_rule_77 (lv_at hl 4 rfl) ?_
                obtain ⟨hi11, h⟩ := ob_i h
                refine ur_iast (i := 5) hx hb hK hP hAd hS (by decide) rfl hi11 dur_Rb_rule_79 (fun H locs hP hS => ?_)
                refine lv_iconst (v := 1) hx hb dur_Rb_rule_80 (by decide) ?_
                exact W.zret (ty := .boolean) (v := 1) hx hb hr rfl (fun t ht hW => ⟨⟨1, (wr (wr (wr σ 3 x1.toNatClampNeg x2) 4 x1.toNatClampNeg x3) 5 x1.toNatClampNeg x4), rfl, ⟨congrArg Prod.fst (Option.some.inj h), congrArg Prod.snd (Option.some.inj h)⟩, by rw [ht]; exact hP, va_K.moved hW.alike hK⟩, hS.F ht⟩) hS.2.2 dur_Rb_rule_81
              · have h := ob_f c8 h
                exact jp47 σ x1 x2 x3 x4 _ _ _ h hP hS (lv_sub hl [0, 1, 2, 3, 4] rfl)
      · have h := ob_f c4 h
        exact jp21 σ x1 x2 x3 x4 _ _ _ h hP hS (lv_sub hl [0, 1, 2, 3, 4] rfl)
set_option maxHeartbeats 4000000 in
set_option maxRecDepth 100000 in
theorem cur_Rb_advise (l : Launch) (D : va_G) (a : Nat → Nat) (k : Nat → ClassId) (hAd : ur_Ad a) (σ : ST) (x1 : Int32) (x2 : Int32) (res : Int32 × ST) (h : urf_Rb_advise σ x1 x2 = some res) : Met l ury_Rb_advise urs_Rb_advise urr_Rb_advise (ur_Pc D a k σ [.ref (a 0), .int x1, .int x2]) (va_Qi (fun (r : Int32) (u : ST) => r = res.1 ∧ u = res.2) (ur_B D a k) (ur_A a)) 0 0 (ur_A a) := by
  refine Met.ofW (cc := urb_Rb_advise) (maxL := 3) (ret := (some .boolean)) (by decide) rfl ?_
  intro p e s m args below meth c s₁ B hml hv
  obtain ⟨rfl, hP, hK⟩ := hv
  have hx := B.exec
  have hb := B.bytes
  have hr := B.returns
  have hts : ∀ w ∈ ub_T, w.before _ s = true := fun w hw => atoms_spec (ws := urs_Rb_advise) B.pre w (List.mem_cons_of_mem _ hw)
  have hown : s.vm.findClass urR_Rb = some m.cls := findClass_of_methodNamed B.named
  have hlocks := B.notSynchronized
  have hS : va_S (ur_A a) s.heap s.heap [] := va_S.rf
  have hl := lv_entry ([.ref (a 0), .int x1, .int x2]) (n := 3) (Nat.le_of_ble_eq_true rfl)
  rw [lg_entry_eq]
  generalize (lg_sl ([.ref (a 0), .int x1, .int x2]) ++ List.replicate (3 - (lg_sl ([.ref (a 0), .int x1, .int x2])).length) Slot.unset).toArray = ls at hl ⊢
  have hl : lv_has ls 3 [(0, .ref (a 0)), (1, .int x1), (2, .int x2)] := hl
  rw [urf_Rb_advise] at h
  refine lv_aload_n hx hb dur_Rb_advise_0 rfl (lv_at hl 0 rfl) ?_
  refine urg_Rb_25 hx hb hts hown hK hP dur_Rb_advise_1 ?_
  refine lv_iload_n hx hb dur_Rb_advise_4 rfl (lv_at hl 1 rfl) ?_
  obtain ⟨q1, hq1, h⟩ := ob_b h
  refine ur_cv_ir (As := [.int x1]) (rest := []) ⟨hx, hb, hml, hown, hts⟩ (cur_Nm_isKnown l D a k hAd σ x1  q1 hq1) (urc_Rb_57 hts ⟨Nat.le_of_ble_eq_true rfl, Nat.le_of_ble_eq_true rfl⟩) (ur_rc1 hK hP) hK hP rfl hl.1 rfl (by decide) dur_Rb_advise_5 hS (fun H locs hP hS => ?_)
  refine lv_if_ne (tgt := 13) hx hb dur_Rb_advise_8 (by decide) (fun c2 => ?_) (fun c2 => ?_)
  · have h := ob_f c2 h
    refine lv_iload_n hx hb dur_Rb_advise_13 rfl (lv_at hl 2 rfl) ?_
    refine lv_iconst (v := (-1)) hx hb dur_Rb_advise_14 (by decide) ?_
    refine lv_icmp_eq (tgt := 32) hx hb dur_Rb_advise_15 (by decide) (fun c3 => ?_) (fun c3 => ?_)
    · have h := ob_t c3 h
      refine lv_aload_n hx hb dur_Rb_advise_32 rfl (lv_at hl 0 rfl) ?_
      refine urg_Rb_25 hx hb hts hown hK hP dur_Rb_advise_33 ?_
      refine urg_Rb_84 hx hb hts hown hK hP dur_Rb_advise_36 ?_
      refine lv_iload_n hx hb dur_Rb_advise_39 rfl (lv_at hl 1 rfl) ?_
      refine lv_iload_n hx hb dur_Rb_advise_40 rfl (lv_at hl 2 rfl) ?_
      obtain ⟨hi4, h⟩ := ob_i h
      refine ur_iast (i := 6) hx hb hK hP hAd hS (by decide) rfl hi4 dur_Rb_advise_41 (fun H locs hP hS => ?_)
      refine lv_iconst (v := 1) hx hb dur_Rb_advise_42 (by decide) ?_
      exact W.zret (ty := .boolean) (v := 1) hx hb hr rfl (fun t ht hW => ⟨⟨1, (wr σ 6 x1.toNatClampNeg x2), rfl, ⟨congrArg Prod.fst (Option.some.inj h), congrArg Prod.snd (Option.some.inj h)⟩, by rw [ht]; exact hP, va_K.moved hW.alike hK⟩, hS.F ht⟩) hS.2.2 dur_Rb_advise_43
    · have h := ob_f c3 h
      refine lv_aload_n hx hb dur_Rb_advise_18 rfl (lv_at hl 0 rfl) ?_
      refine urg_Rb_25 hx hb hts hown hK hP dur_Rb_advise_19 ?_
      refine lv_iload_n hx hb dur_Rb_advise_22 rfl (lv_at hl 1 rfl) ?_
      refine lv_iload_n hx hb dur_Rb_advise_23 rfl (lv_at hl 2 rfl) ?_
      obtain ⟨q5, hq5, h⟩ := ob_b h
      refine ur_cv_ir (As := [.int x1, .int x2]) (rest := []) ⟨hx, hb, hml, hown, hts⟩ (cur_Nm_hasVersion l D a k hAd σ x1 x2  q5 hq5) (urc_Rb_63 hts ⟨Nat.le_of_ble_eq_true rfl, Nat.le_of_ble_eq_true rfl⟩) (ur_rc1 hK hP) hK hP rfl hl.1 rfl (by decide) dur_Rb_advise_24 hS (fun H locs hP hS => ?_)
      refine lv_if_ne (tgt := 32) hx hb dur_Rb_advise_27 (by decide) (fun c6 => ?_) (fun c6 => ?_)
      · have h := ob_f c6 h
        refine lv_aload_n hx hb dur_Rb_advise_32 rfl (lv_at hl 0 rfl) ?_
        refine urg_Rb_25 hx hb hts hown hK hP dur_Rb_advise_33 ?_
        refine urg_Rb_84 hx hb hts hown hK hP dur_Rb_advise_36 ?_
        refine lv_iload_n hx hb dur_Rb_advise_39 rfl (lv_at hl 1 rfl) ?_
        refine lv_iload_n hx hb dur_Rb_advise_40 rfl (lv_at hl 2 rfl) ?_
        obtain ⟨hi7, h⟩ := ob_i h
        refine ur_iast (i := 6) hx hb hK hP hAd hS (by decide) rfl hi7 dur_Rb_advise_41 (fun H locs hP hS => ?_)
        refine lv_iconst (v := 1) hx hb dur_Rb_advise_42 (by decide) ?_
        exact W.zret (ty := .boolean) (v := 1) hx hb hr rfl (fun t ht hW => ⟨⟨1, (wr σ 6 x1.toNatClampNeg x2), rfl, ⟨congrArg Prod.fst (Option.some.inj h), congrArg Prod.snd (Option.some.inj h)⟩, by rw [ht]; exact hP, va_K.moved hW.alike hK⟩, hS.F ht⟩) hS.2.2 dur_Rb_advise_43
      · have h := ob_t c6 h
        refine lv_iconst (v := 0) hx hb dur_Rb_advise_30 (by decide) ?_
        exact W.zret (ty := .boolean) (v := 0) hx hb hr rfl (fun t ht hW => ⟨⟨0, σ, rfl, ⟨congrArg Prod.fst (Option.some.inj h), congrArg Prod.snd (Option.some.inj h)⟩, by rw [ht]; exact hP, va_K.moved hW.alike hK⟩, hS.F ht⟩) hS.2.2 dur_Rb_advise_31
  · have h := ob_t c2 h
    refine lv_iconst (v := 0) hx hb dur_Rb_advise_11 (by decide) ?_
    exact W.zret (ty := .boolean) (v := 0) hx hb hr rfl (fun t ht hW => ⟨⟨0, σ, rfl, ⟨congrArg Prod.fst (Option.some.inj h), congrArg Prod.snd (Option.some.inj h)⟩, by rw [ht]; exact hP, va_K.moved hW.alike hK⟩, hS.F ht⟩) hS.2.2 dur_Rb_advise_12
set_option maxHeartbeats 4000000 in
set_option maxRecDepth 100000 in
theorem cur_Rb_has (l : Launch) (D : va_G) (a : Nat → Nat) (k : Nat → ClassId) (hAd : ur_Ad a) (σ : ST) (x1 : Int32) (res : Int32) (h : urf_Rb_has σ x1 = some res) : Met l ury_Rb_has urs_Rb_has urr_Rb_has (ur_Pc D a k σ [.ref (a 0), .int x1]) (va_Qi (fun (r : Int32) (u : ST) => r = res ∧ u = σ) (ur_B D a k) (ur_A a)) 0 0 (ur_A a) := by
  refine Met.ofW (cc := urb_Rb_has) (maxL := 2) (ret := (some .int)) (by decide) rfl ?_
  intro p e s m args below meth c s₁ B hml hv
  obtain ⟨rfl, hP, hK⟩ := hv
  have hx := B.exec
  have hb := B.bytes
  have hr := B.returns
  have hts : ∀ w ∈ ub_T, w.before _ s = true := fun w hw => atoms_spec (ws := urs_Rb_has) B.pre w (List.mem_cons_of_mem _ hw)
  have hown : s.vm.findClass urR_Rb = some m.cls := findClass_of_methodNamed B.named
  have hlocks := B.notSynchronized
  have hS : va_S (ur_A a) s.heap s.heap [] := va_S.rf
  have hl := lv_entry ([.ref (a 0), .int x1]) (n := 2) (Nat.le_of_ble_eq_true rfl)
  rw [lg_entry_eq]
  generalize (lg_sl ([.ref (a 0), .int x1]) ++ List.replicate (2 - (lg_sl ([.ref (a 0), .int x1])).length) Slot.unset).toArray = ls at hl ⊢
  have hl : lv_has ls 2 [(0, .ref (a 0)), (1, .int x1)] := hl
  rw [urf_Rb_has] at h
  refine lv_aload_n hx hb dur_Rb_has_0 rfl (lv_at hl 0 rfl) ?_
  refine urg_Rb_25 hx hb hts hown hK hP dur_Rb_has_1 ?_
  refine lv_iload_n hx hb dur_Rb_has_4 rfl (lv_at hl 1 rfl) ?_
  obtain ⟨q1, hq1, h⟩ := ob_b h
  refine ur_cv_ir (As := [.int x1]) (rest := []) ⟨hx, hb, hml, hown, hts⟩ (cur_Nm_isKnown l D a k hAd σ x1  q1 hq1) (urc_Rb_57 hts ⟨Nat.le_of_ble_eq_true rfl, Nat.le_of_ble_eq_true rfl⟩) (ur_rc1 hK hP) hK hP rfl hl.1 rfl (by decide) dur_Rb_has_5 hS (fun H locs hP hS => ?_)
  refine lv_if_eq (tgt := 23) hx hb dur_Rb_has_8 (by decide) (fun c2 => ?_) (fun c2 => ?_)
  · have h := ob_t c2 h
    refine lv_iconst (v := (-1)) hx hb dur_Rb_has_23 (by decide) ?_
    exact W.iret (v := (-1)) hx hb hr (fun t ht hW => ⟨⟨(-1), σ, rfl, ⟨Option.some.inj h, rfl⟩, by rw [ht]; exact hP, va_K.moved hW.alike hK⟩, hS.F ht⟩) hS.2.2 dur_Rb_has_24
  · have h := ob_f c2 h
    refine lv_aload_n hx hb dur_Rb_has_11 rfl (lv_at hl 0 rfl) ?_
    refine urg_Rb_25 hx hb hts hown hK hP dur_Rb_has_12 ?_
    refine urg_Rb_87 hx hb hts hown hK hP dur_Rb_has_15 ?_
    refine lv_iload_n hx hb dur_Rb_has_18 rfl (lv_at hl 1 rfl) ?_
    obtain ⟨hi3, h⟩ := ob_i h
    refine ur_iald (i := 2) hx hb hK hP (by decide) rfl hi3 dur_Rb_has_19 ?_
    refine lv_goto (tgt := 24) hx hb dur_Rb_has_20 (by decide) ?_
    exact W.iret (v := (σ 2 x1.toNatClampNeg)) hx hb hr (fun t ht hW => ⟨⟨(σ 2 x1.toNatClampNeg), σ, rfl, ⟨Option.some.inj h, rfl⟩, by rw [ht]; exact hP, va_K.moved hW.alike hK⟩, hS.F ht⟩) hS.2.2 dur_Rb_has_24
end
