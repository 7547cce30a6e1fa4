-- ===== PART A: goes FIRST, ahead of the names: the tables' words, and 'selects' of the private methods out of them =====
/-- a private method of a class that the tables say can be made, by its rows of tables_1 -/
def lw_okq (q : MethodName × Nat) : Prop := (q.1.cls ≠ "java/lang/invoke/MethodHandle" ∧ q.1.cls ≠ "java/lang/invoke/VarHandle") ∧ Cond.instantiable q.1.cls q.2 ∈ tables_1 ∧ Cond.privateMethod q.1 ∈ tables_1 ∧ Cond.instanceMethod q.1 ∈ tables_1
theorem lw_p0 : lw_okq (⟨"UpdateRobot$Solver", "setOut", "(LUpdateRobot$Names;I)V"⟩, 2) := ⟨⟨by decide +kernel, by decide +kernel⟩, List.mem_of_getElem? (i := 82) (by decide +kernel), List.mem_of_getElem? (i := 233) (by decide +kernel), List.mem_of_getElem? (i := 234) (by decide +kernel)⟩
theorem lw_p1 : lw_okq (⟨"UpdateRobot$Solver", "firstNeedy", "(LUpdateRobot$Names;)I"⟩, 2) := ⟨⟨by decide +kernel, by decide +kernel⟩, List.mem_of_getElem? (i := 82) (by decide +kernel), List.mem_of_getElem? (i := 239) (by decide +kernel), List.mem_of_getElem? (i := 240) (by decide +kernel)⟩
theorem lw_p2 : lw_okq (⟨"UpdateRobot$Solver", "lacksAtTarget", "(LUpdateRobot$Names;I)Z"⟩, 2) := ⟨⟨by decide +kernel, by decide +kernel⟩, List.mem_of_getElem? (i := 82) (by decide +kernel), List.mem_of_getElem? (i := 243) (by decide +kernel), List.mem_of_getElem? (i := 244) (by decide +kernel)⟩
theorem lw_p3 : lw_okq (⟨"UpdateRobot$Solver", "keepRaised", "(LUpdateRobot$Names;)I"⟩, 2) := ⟨⟨by decide +kernel, by decide +kernel⟩, List.mem_of_getElem? (i := 82) (by decide +kernel), List.mem_of_getElem? (i := 249) (by decide +kernel), List.mem_of_getElem? (i := 250) (by decide +kernel)⟩
theorem lw_p4 : lw_okq (⟨"UpdateRobot", "isDue", "(I)Z"⟩, 6) := ⟨⟨by decide +kernel, by decide +kernel⟩, List.mem_of_getElem? (i := 8) (by decide +kernel), List.mem_of_getElem? (i := 263) (by decide +kernel), List.mem_of_getElem? (i := 264) (by decide +kernel)⟩
theorem lw_p5 : lw_okq (⟨"UpdateRobot", "review", "(I)V"⟩, 6) := ⟨⟨by decide +kernel, by decide +kernel⟩, List.mem_of_getElem? (i := 8) (by decide +kernel), List.mem_of_getElem? (i := 276) (by decide +kernel), List.mem_of_getElem? (i := 277) (by decide +kernel)⟩
theorem lw_p6 : lw_okq (⟨"UpdateRobot$Proposals", "latestOf", "(II)I"⟩, 7) := ⟨⟨by decide +kernel, by decide +kernel⟩, List.mem_of_getElem? (i := 96) (by decide +kernel), List.mem_of_getElem? (i := 284) (by decide +kernel), List.mem_of_getElem? (i := 285) (by decide +kernel)⟩
theorem lw_p7 : lw_okq (⟨"UpdateRobot", "mayOpen", "(II)Z"⟩, 6) := ⟨⟨by decide +kernel, by decide +kernel⟩, List.mem_of_getElem? (i := 8) (by decide +kernel), List.mem_of_getElem? (i := 304) (by decide +kernel), List.mem_of_getElem? (i := 305) (by decide +kernel)⟩
theorem lw_p8 : lw_okq (⟨"UpdateRobot", "openIn", "(I)I"⟩, 6) := ⟨⟨by decide +kernel, by decide +kernel⟩, List.mem_of_getElem? (i := 8) (by decide +kernel), List.mem_of_getElem? (i := 312) (by decide +kernel), List.mem_of_getElem? (i := 313) (by decide +kernel)⟩
theorem lw_p9 : lw_okq (⟨"UpdateRobot", "redoAllTouchedBy", "(I)V"⟩, 6) := ⟨⟨by decide +kernel, by decide +kernel⟩, List.mem_of_getElem? (i := 8) (by decide +kernel), List.mem_of_getElem? (i := 350) (by decide +kernel), List.mem_of_getElem? (i := 351) (by decide +kernel)⟩
theorem lw_p10 : lw_okq (⟨"UpdateRobot", "redo", "(I)V"⟩, 6) := ⟨⟨by decide +kernel, by decide +kernel⟩, List.mem_of_getElem? (i := 8) (by decide +kernel), List.mem_of_getElem? (i := 358) (by decide +kernel), List.mem_of_getElem? (i := 359) (by decide +kernel)⟩
theorem lw_p11 : lw_okq (⟨"UpdateRobotModel", "isName", "(I)Z"⟩, 25) := ⟨⟨by decide +kernel, by decide +kernel⟩, List.mem_of_getElem? (i := 370) (by decide +kernel), List.mem_of_getElem? (i := 460) (by decide +kernel), List.mem_of_getElem? (i := 461) (by decide +kernel)⟩
theorem lw_p12 : lw_okq (⟨"UpdateRobotModel", "goalOf", "(I)I"⟩, 25) := ⟨⟨by decide +kernel, by decide +kernel⟩, List.mem_of_getElem? (i := 370) (by decide +kernel), List.mem_of_getElem? (i := 484) (by decide +kernel), List.mem_of_getElem? (i := 485) (by decide +kernel)⟩
theorem lw_p13 : lw_okq (⟨"UpdateRobotModel", "isAllowed", "(II)Z"⟩, 25) := ⟨⟨by decide +kernel, by decide +kernel⟩, List.mem_of_getElem? (i := 370) (by decide +kernel), List.mem_of_getElem? (i := 488) (by decide +kernel), List.mem_of_getElem? (i := 489) (by decide +kernel)⟩
theorem lw_p14 : lw_okq (⟨"UpdateRobotModel", "isHit", "(I)Z"⟩, 25) := ⟨⟨by decide +kernel, by decide +kernel⟩, List.mem_of_getElem? (i := 370) (by decide +kernel), List.mem_of_getElem? (i := 492) (by decide +kernel), List.mem_of_getElem? (i := 493) (by decide +kernel)⟩
theorem lw_p15 : lw_okq (⟨"UpdateRobotModel", "chiefOf", "(I)I"⟩, 25) := ⟨⟨by decide +kernel, by decide +kernel⟩, List.mem_of_getElem? (i := 370) (by decide +kernel), List.mem_of_getElem? (i := 500) (by decide +kernel), List.mem_of_getElem? (i := 501) (by decide +kernel)⟩
def lw_privs_1 : List (MethodName × Nat) := [(⟨"UpdateRobot$Solver", "setOut", "(LUpdateRobot$Names;I)V"⟩, 2), (⟨"UpdateRobot$Solver", "firstNeedy", "(LUpdateRobot$Names;)I"⟩, 2), (⟨"UpdateRobot$Solver", "lacksAtTarget", "(LUpdateRobot$Names;I)Z"⟩, 2), (⟨"UpdateRobot$Solver", "keepRaised", "(LUpdateRobot$Names;)I"⟩, 2), (⟨"UpdateRobot", "isDue", "(I)Z"⟩, 6), (⟨"UpdateRobot", "review", "(I)V"⟩, 6), (⟨"UpdateRobot$Proposals", "latestOf", "(II)I"⟩, 7), (⟨"UpdateRobot", "mayOpen", "(II)Z"⟩, 6), (⟨"UpdateRobot", "openIn", "(I)I"⟩, 6), (⟨"UpdateRobot", "redoAllTouchedBy", "(I)V"⟩, 6), (⟨"UpdateRobot", "redo", "(I)V"⟩, 6), (⟨"UpdateRobotModel", "isName", "(I)Z"⟩, 25), (⟨"UpdateRobotModel", "goalOf", "(I)I"⟩, 25), (⟨"UpdateRobotModel", "isAllowed", "(II)Z"⟩, 25), (⟨"UpdateRobotModel", "isHit", "(I)Z"⟩, 25), (⟨"UpdateRobotModel", "chiefOf", "(I)I"⟩, 25)]
theorem lw_r1 : ∀ q ∈ lw_privs_1, lw_okq q := List.forall_mem_cons.mpr ⟨lw_p0, List.forall_mem_cons.mpr ⟨lw_p1, List.forall_mem_cons.mpr ⟨lw_p2, List.forall_mem_cons.mpr ⟨lw_p3, List.forall_mem_cons.mpr ⟨lw_p4, List.forall_mem_cons.mpr ⟨lw_p5, List.forall_mem_cons.mpr ⟨lw_p6, List.forall_mem_cons.mpr ⟨lw_p7, List.forall_mem_cons.mpr ⟨lw_p8, List.forall_mem_cons.mpr ⟨lw_p9, List.forall_mem_cons.mpr ⟨lw_p10, List.forall_mem_cons.mpr ⟨lw_p11, List.forall_mem_cons.mpr ⟨lw_p12, List.forall_mem_cons.mpr ⟨lw_p13, List.forall_mem_cons.mpr ⟨lw_p14, List.forall_mem_cons.mpr ⟨lw_p15, fun _ h => absurd h List.not_mem_nil⟩⟩⟩⟩⟩⟩⟩⟩⟩⟩⟩⟩⟩⟩⟩⟩
theorem lw_p16 : lw_okq (⟨"UpdateRobotModel", "areOne", "(II)Z"⟩, 25) := ⟨⟨by decide +kernel, by decide +kernel⟩, List.mem_of_getElem? (i := 370) (by decide +kernel), List.mem_of_getElem? (i := 504) (by decide +kernel), List.mem_of_getElem? (i := 505) (by decide +kernel)⟩
theorem lw_p17 : lw_okq (⟨"UpdateRobotModel", "find", "(I)I"⟩, 25) := ⟨⟨by decide +kernel, by decide +kernel⟩, List.mem_of_getElem? (i := 370) (by decide +kernel), List.mem_of_getElem? (i := 512) (by decide +kernel), List.mem_of_getElem? (i := 513) (by decide +kernel)⟩
theorem lw_p18 : lw_okq (⟨"UpdateRobotModel", "wanting", "()I"⟩, 25) := ⟨⟨by decide +kernel, by decide +kernel⟩, List.mem_of_getElem? (i := 370) (by decide +kernel), List.mem_of_getElem? (i := 516) (by decide +kernel), List.mem_of_getElem? (i := 517) (by decide +kernel)⟩
theorem lw_p19 : lw_okq (⟨"UpdateRobotModel", "isDue", "(I)Z"⟩, 25) := ⟨⟨by decide +kernel, by decide +kernel⟩, List.mem_of_getElem? (i := 370) (by decide +kernel), List.mem_of_getElem? (i := 530) (by decide +kernel), List.mem_of_getElem? (i := 531) (by decide +kernel)⟩
theorem lw_p20 : lw_okq (⟨"UpdateRobotModel", "propose", "(I)I"⟩, 25) := ⟨⟨by decide +kernel, by decide +kernel⟩, List.mem_of_getElem? (i := 370) (by decide +kernel), List.mem_of_getElem? (i := 534) (by decide +kernel), List.mem_of_getElem? (i := 535) (by decide +kernel)⟩
theorem lw_p21 : lw_okq (⟨"UpdateRobotModel", "latest", "(II)I"⟩, 25) := ⟨⟨by decide +kernel, by decide +kernel⟩, List.mem_of_getElem? (i := 370) (by decide +kernel), List.mem_of_getElem? (i := 538) (by decide +kernel), List.mem_of_getElem? (i := 539) (by decide +kernel)⟩
theorem lw_p22 : lw_okq (⟨"UpdateRobotModel", "isSame", "(I)Z"⟩, 25) := ⟨⟨by decide +kernel, by decide +kernel⟩, List.mem_of_getElem? (i := 370) (by decide +kernel), List.mem_of_getElem? (i := 542) (by decide +kernel), List.mem_of_getElem? (i := 543) (by decide +kernel)⟩
theorem lw_p23 : lw_okq (⟨"UpdateRobotModel", "raised", "(I)I"⟩, 25) := ⟨⟨by decide +kernel, by decide +kernel⟩, List.mem_of_getElem? (i := 370) (by decide +kernel), List.mem_of_getElem? (i := 546) (by decide +kernel), List.mem_of_getElem? (i := 547) (by decide +kernel)⟩
theorem lw_p24 : lw_okq (⟨"UpdateRobotModel", "isUnitHit", "(I)Z"⟩, 25) := ⟨⟨by decide +kernel, by decide +kernel⟩, List.mem_of_getElem? (i := 370) (by decide +kernel), List.mem_of_getElem? (i := 550) (by decide +kernel), List.mem_of_getElem? (i := 551) (by decide +kernel)⟩
theorem lw_p25 : lw_okq (⟨"UpdateRobotModel", "opens", "(I)I"⟩, 25) := ⟨⟨by decide +kernel, by decide +kernel⟩, List.mem_of_getElem? (i := 370) (by decide +kernel), List.mem_of_getElem? (i := 554) (by decide +kernel), List.mem_of_getElem? (i := 555) (by decide +kernel)⟩
theorem lw_p26 : lw_okq (⟨"UpdateRobotModel", "fill", "(I)V"⟩, 25) := ⟨⟨by decide +kernel, by decide +kernel⟩, List.mem_of_getElem? (i := 370) (by decide +kernel), List.mem_of_getElem? (i := 558) (by decide +kernel), List.mem_of_getElem? (i := 559) (by decide +kernel)⟩
theorem lw_p27 : lw_okq (⟨"UpdateRobotModel", "redo", "(I)V"⟩, 25) := ⟨⟨by decide +kernel, by decide +kernel⟩, List.mem_of_getElem? (i := 370) (by decide +kernel), List.mem_of_getElem? (i := 578) (by decide +kernel), List.mem_of_getElem? (i := 579) (by decide +kernel)⟩
def lw_privs_2 : List (MethodName × Nat) := [(⟨"UpdateRobotModel", "areOne", "(II)Z"⟩, 25), (⟨"UpdateRobotModel", "find", "(I)I"⟩, 25), (⟨"UpdateRobotModel", "wanting", "()I"⟩, 25), (⟨"UpdateRobotModel", "isDue", "(I)Z"⟩, 25), (⟨"UpdateRobotModel", "propose", "(I)I"⟩, 25), (⟨"UpdateRobotModel", "latest", "(II)I"⟩, 25), (⟨"UpdateRobotModel", "isSame", "(I)Z"⟩, 25), (⟨"UpdateRobotModel", "raised", "(I)I"⟩, 25), (⟨"UpdateRobotModel", "isUnitHit", "(I)Z"⟩, 25), (⟨"UpdateRobotModel", "opens", "(I)I"⟩, 25), (⟨"UpdateRobotModel", "fill", "(I)V"⟩, 25), (⟨"UpdateRobotModel", "redo", "(I)V"⟩, 25)]
theorem lw_r2 : ∀ q ∈ lw_privs_2, lw_okq q := List.forall_mem_cons.mpr ⟨lw_p16, List.forall_mem_cons.mpr ⟨lw_p17, List.forall_mem_cons.mpr ⟨lw_p18, List.forall_mem_cons.mpr ⟨lw_p19, List.forall_mem_cons.mpr ⟨lw_p20, List.forall_mem_cons.mpr ⟨lw_p21, List.forall_mem_cons.mpr ⟨lw_p22, List.forall_mem_cons.mpr ⟨lw_p23, List.forall_mem_cons.mpr ⟨lw_p24, List.forall_mem_cons.mpr ⟨lw_p25, List.forall_mem_cons.mpr ⟨lw_p26, List.forall_mem_cons.mpr ⟨lw_p27, fun _ h => absurd h List.not_mem_nil⟩⟩⟩⟩⟩⟩⟩⟩⟩⟩⟩⟩
def lw_privs : List (MethodName × Nat) := lw_privs_1 ++ (lw_privs_2)
def lw_tbl : List Cond := k2_sels lw_privs ++ tables_1
theorem lw_privs_ok : ∀ q ∈ lw_privs, lw_okq q := by
  show ∀ q ∈ lw_privs_1 ++ (lw_privs_2), lw_okq q
  exact List.forall_mem_append.mpr ⟨lw_r1, lw_r2⟩
def ub_T : List Cond := lw_tbl.filter goodWord
theorem ub_Tgood : ∀ w ∈ ub_T, goodWord w = true := fun w h => (List.mem_filter.mp h).2
theorem ub_good {y : MethodName} {b : ByteArray} {n : Nat} {r : Option FieldType} (h : Cond.code y b n r ∈ ub_T) : GoodIn ub_T (Cond.code y b n r :: ub_T) := fun w hw => by
  rcases List.mem_cons.mp hw with e | e
  · rw [e]; exact ⟨h, good_of_word (ub_Tgood _ h)⟩
  · exact ⟨e, good_of_word (ub_Tgood _ e)⟩
theorem ub_one {w : Cond} (h : w ∈ ub_T) : w ∈ ub_T ∧ ((w.onTables && w.keeps) = true ∨ ∃ ty, w = .arrayClass ty) := ⟨h, good_of_word (ub_Tgood _ h)⟩
theorem ub_goodV {own C : String} {ix : Nat} {y : MethodName} {b : ByteArray} {n : Nat} {r : Option FieldType} (h1 : Cond.methodLink own ix y ∈ ub_T) (h2 : Cond.instanceMethod y ∈ ub_T) (h3 : Cond.selects C y y ∈ ub_T) (h4 : Cond.initialized C ∈ ub_T) (h : Cond.code y b n r ∈ ub_T) : GoodIn ub_T (wsV own ix C y (Cond.code y b n r :: ub_T)) := fun w hw => by
  rcases List.mem_append.mp hw with e | e
  · rcases List.mem_cons.mp e with e | e
    · rw [e]; exact ub_one h1
    · rcases List.mem_cons.mp e with e | e
      · rw [e]; exact ub_one h2
      · rcases List.mem_cons.mp e with e | e
        · rw [e]; exact ub_one h3
        · rcases List.mem_cons.mp e with e | e
          · rw [e]; exact ub_one h4
          · cases e
  · exact ub_good h w e
theorem ub_goodS {own : String} {ix : Nat} {y : MethodName} {b : ByteArray} {n : Nat} {r : Option FieldType} (h1 : Cond.methodLink own ix y ∈ ub_T) (h2 : Cond.static y ∈ ub_T) (h3 : Cond.initialized own ∈ ub_T) (h : Cond.code y b n r ∈ ub_T) : GoodIn ub_T (wsS own ix y (Cond.code y b n r :: ub_T)) := fun w hw => by
  rcases List.mem_append.mp hw with e | e
  · rcases List.mem_cons.mp e with e | e
    · rw [e]; exact ub_one h1
    · rcases List.mem_cons.mp e with e | e
      · rw [e]; exact ub_one h2
      · rcases List.mem_cons.mp e with e | e
        · rw [e]; exact ub_one h3
        · cases e
  · exact ub_good h w e

abbrev urR_Rb : String := "UpdateRobot"
def urF_Rb : u_T := fun k => match k with
  | 0 => ("UpdateRobot", "limit", "I", true)
  | 1 => ("UpdateRobot", "names", "LUpdateRobot$Names;", true)
  | 2 => ("UpdateRobot", "solver", "LUpdateRobot$Solver;", true)
  | 3 => ("UpdateRobot", "proposals", "LUpdateRobot$Proposals;", true)
  | 4 => ("UpdateRobot", "clock", "I", false)
  | _ => ("UpdateRobot", "waited", "I", false)
def urt_Rb : Nat → FieldType := fun k => match k with
  | 0 => .int
  | 1 => .object "UpdateRobot$Names"
  | 2 => .object "UpdateRobot$Solver"
  | 3 => .object "UpdateRobot$Proposals"
  | 4 => .int
  | _ => .int
theorem urn_Rb : ∀ a, a < 6 → ∀ b, b < 6 → a ≠ b → (urF_Rb a).2.1 ≠ (urF_Rb b).2.1 := by decide +kernel
theorem urto_Rb : ∀ k, k < 6 → parseFieldDescriptor (urF_Rb k).2.2.1 = some (urt_Rb k) := by decide +kernel
theorem uri_Rb : ∀ w ∈ u_ws urR_Rb urF_Rb 6, w ∈ ub_T := by decide +kernel
abbrev urR_Nm : String := "UpdateRobot$Names"
def urF_Nm : u_T := fun k => match k with
  | 0 => ("UpdateRobot$Names", "count", "I", false)
  | 1 => ("UpdateRobot$Names", "repository", "[I", true)
  | 2 => ("UpdateRobot$Names", "versions", "[I", true)
  | 3 => ("UpdateRobot$Names", "had", "[I", true)
  | 4 => ("UpdateRobot$Names", "allowed", "[I", true)
  | 5 => ("UpdateRobot$Names", "every", "[I", true)
  | 6 => ("UpdateRobot$Names", "group", "[I", true)
  | 7 => ("UpdateRobot$Names", "advised", "[I", true)
  | 8 => ("UpdateRobot$Names", "dueAt", "[I", true)
  | 9 => ("UpdateRobot$Names", "kind", "[[I", true)
  | 10 => ("UpdateRobot$Names", "needed", "[[I", true)
  | _ => ("UpdateRobot$Names", "neededLeast", "[[I", true)
def urt_Nm : Nat → FieldType := fun k => match k with
  | 0 => .int
  | 1 => .array .int
  | 2 => .array .int
  | 3 => .array .int
  | 4 => .array .int
  | 5 => .array .int
  | 6 => .array .int
  | 7 => .array .int
  | 8 => .array .int
  | 9 => .array (.array .int)
  | 10 => .array (.array .int)
  | _ => .array (.array .int)
theorem urn_Nm : ∀ a, a < 12 → ∀ b, b < 12 → a ≠ b → (urF_Nm a).2.1 ≠ (urF_Nm b).2.1 := by decide +kernel
theorem urto_Nm : ∀ k, k < 12 → parseFieldDescriptor (urF_Nm k).2.2.1 = some (urt_Nm k) := by decide +kernel
theorem uri_Nm : ∀ w ∈ u_ws urR_Nm urF_Nm 12, w ∈ ub_T := by decide +kernel
abbrev urR_So : String := "UpdateRobot$Solver"
def urF_So : u_T := fun k => match k with
  | 0 => ("UpdateRobot$Solver", "targets", "[I", true)
  | _ => ("UpdateRobot$Solver", "raised", "[I", true)
def urt_So : Nat → FieldType := fun k => match k with
  | 0 => .array .int
  | _ => .array .int
theorem urn_So : ∀ a, a < 2 → ∀ b, b < 2 → a ≠ b → (urF_So a).2.1 ≠ (urF_So b).2.1 := by decide +kernel
theorem urto_So : ∀ k, k < 2 → parseFieldDescriptor (urF_So k).2.2.1 = some (urt_So k) := by decide +kernel
theorem uri_So : ∀ w ∈ u_ws urR_So urF_So 2, w ∈ ub_T := by decide +kernel
abbrev urR_Pr : String := "UpdateRobot$Proposals"
def urF_Pr : u_T := fun k => match k with
  | 0 => ("UpdateRobot$Proposals", "count", "I", false)
  | 1 => ("UpdateRobot$Proposals", "state", "[I", true)
  | 2 => ("UpdateRobot$Proposals", "chief", "[I", true)
  | 3 => ("UpdateRobot$Proposals", "redone", "[I", true)
  | 4 => ("UpdateRobot$Proposals", "openedAt", "[I", true)
  | 5 => ("UpdateRobot$Proposals", "hit", "[Z", true)
  | _ => ("UpdateRobot$Proposals", "raised", "[[I", true)
def urt_Pr : Nat → FieldType := fun k => match k with
  | 0 => .int
  | 1 => .array .int
  | 2 => .array .int
  | 3 => .array .int
  | 4 => .array .int
  | 5 => .array .boolean
  | _ => .array (.array .int)
theorem urn_Pr : ∀ a, a < 7 → ∀ b, b < 7 → a ≠ b → (urF_Pr a).2.1 ≠ (urF_Pr b).2.1 := by decide +kernel
theorem urto_Pr : ∀ k, k < 7 → parseFieldDescriptor (urF_Pr k).2.2.1 = some (urt_Pr k) := by decide +kernel
theorem uri_Pr : ∀ w ∈ u_ws urR_Pr urF_Pr 7, w ∈ ub_T := by decide +kernel
abbrev rfR_Md : String := "UpdateRobotModel"
def rfF_Md : u_T := fun k => match k with
  | 0 => ("UpdateRobotModel", "limit", "I", true)
  | 1 => ("UpdateRobotModel", "code", "I", false)
  | 2 => ("UpdateRobotModel", "clock", "I", false)
  | 3 => ("UpdateRobotModel", "names", "I", false)
  | 4 => ("UpdateRobotModel", "proposals", "I", false)
  | 5 => ("UpdateRobotModel", "waited", "I", false)
  | 6 => ("UpdateRobotModel", "repository", "[I", true)
  | 7 => ("UpdateRobotModel", "newest", "[I", true)
  | 8 => ("UpdateRobotModel", "has", "[I", true)
  | 9 => ("UpdateRobotModel", "allowed", "[I", true)
  | 10 => ("UpdateRobotModel", "every", "[I", true)
  | 11 => ("UpdateRobotModel", "group", "[I", true)
  | 12 => ("UpdateRobotModel", "advised", "[I", true)
  | 13 => ("UpdateRobotModel", "lastDue", "[I", true)
  | 14 => ("UpdateRobotModel", "kind", "[I", true)
  | 15 => ("UpdateRobotModel", "needOf", "[I", true)
  | 16 => ("UpdateRobotModel", "needLeast", "[I", true)
  | 17 => ("UpdateRobotModel", "trial", "[I", true)
  | 18 => ("UpdateRobotModel", "culprit", "I", false)
  | 19 => ("UpdateRobotModel", "state", "[I", true)
  | 20 => ("UpdateRobotModel", "itsChief", "[I", true)
  | 21 => ("UpdateRobotModel", "redone", "[I", true)
  | 22 => ("UpdateRobotModel", "opened", "[I", true)
  | 23 => ("UpdateRobotModel", "wasHit", "[I", true)
  | _ => ("UpdateRobotModel", "target", "[I", true)
def rft_Md : Nat → FieldType := fun k => match k with
  | 0 => .int
  | 1 => .int
  | 2 => .int
  | 3 => .int
  | 4 => .int
  | 5 => .int
  | 6 => .array .int
  | 7 => .array .int
  | 8 => .array .int
  | 9 => .array .int
  | 10 => .array .int
  | 11 => .array .int
  | 12 => .array .int
  | 13 => .array .int
  | 14 => .array .int
  | 15 => .array .int
  | 16 => .array .int
  | 17 => .array .int
  | 18 => .int
  | 19 => .array .int
  | 20 => .array .int
  | 21 => .array .int
  | 22 => .array .int
  | 23 => .array .int
  | _ => .array .int
theorem rfn_Md : ∀ a, a < 25 → ∀ b, b < 25 → a ≠ b → (rfF_Md a).2.1 ≠ (rfF_Md b).2.1 := by decide +kernel
theorem rfto_Md : ∀ k, k < 25 → parseFieldDescriptor (rfF_Md k).2.2.1 = some (rft_Md k) := by decide +kernel
theorem rfi_Md : ∀ w ∈ u_ws rfR_Md rfF_Md 25, w ∈ ub_T := by decide +kernel
abbrev ub_cl : List vw_C := [(urR_Rb, urF_Rb, 6), (urR_Nm, urF_Nm, 12), (urR_So, urF_So, 2), (urR_Pr, urF_Pr, 7), (rfR_Md, rfF_Md, 25)]
set_option maxRecDepth 100000 in
theorem ubw_28 : Cond.initialized "UpdateRobotLaw" ∈ ub_T := List.mem_filter.mpr ⟨List.mem_of_getElem? (i := 28) (by decide +kernel), rfl⟩
set_option maxRecDepth 100000 in
theorem ubw_29 : Cond.initialized "UpdateRobot" ∈ ub_T := List.mem_filter.mpr ⟨List.mem_of_getElem? (i := 29) (by decide +kernel), rfl⟩
set_option maxRecDepth 100000 in
theorem ubw_30 : Cond.initialized "java/lang/Math" ∈ ub_T := List.mem_filter.mpr ⟨List.mem_of_getElem? (i := 30) (by decide +kernel), rfl⟩
set_option maxRecDepth 100000 in
theorem ubw_31 : Cond.initialized "UpdateRobot$Names" ∈ ub_T := List.mem_filter.mpr ⟨List.mem_of_getElem? (i := 31) (by decide +kernel), rfl⟩
set_option maxRecDepth 100000 in
theorem ubw_32 : Cond.initialized "UpdateRobot$Solver" ∈ ub_T := List.mem_filter.mpr ⟨List.mem_of_getElem? (i := 32) (by decide +kernel), rfl⟩
set_option maxRecDepth 100000 in
theorem ubw_33 : Cond.initialized "UpdateRobot$Proposals" ∈ ub_T := List.mem_filter.mpr ⟨List.mem_of_getElem? (i := 33) (by decide +kernel), rfl⟩
set_option maxRecDepth 100000 in
theorem ubw_34 : Cond.initialized "UpdateRobotModel" ∈ ub_T := List.mem_filter.mpr ⟨List.mem_of_getElem? (i := 34) (by decide +kernel), rfl⟩
set_option maxRecDepth 100000 in
theorem ubw_35 : Cond.classLink "UpdateRobotLaw" 7 "UpdateRobot" ∈ ub_T := List.mem_filter.mpr ⟨List.mem_of_getElem? (i := 35) (by decide +kernel), rfl⟩
set_option maxRecDepth 100000 in
theorem ubw_36 : Cond.instantiable "UpdateRobot" 6 ∈ ub_T := List.mem_filter.mpr ⟨List.mem_of_getElem? (i := 36) (by decide +kernel), rfl⟩
set_option maxRecDepth 100000 in
theorem ubw_37 : Cond.methodLink "UpdateRobotLaw" 15 ⟨"UpdateRobot", "<init>", "(I)V"⟩ ∈ ub_T := List.mem_filter.mpr ⟨List.mem_of_getElem? (i := 37) (by decide +kernel), rfl⟩
set_option maxRecDepth 100000 in
theorem ubw_38 : Cond.instanceMethod ⟨"UpdateRobot", "<init>", "(I)V"⟩ ∈ ub_T := List.mem_filter.mpr ⟨List.mem_of_getElem? (i := 38) (by decide +kernel), rfl⟩
set_option maxRecDepth 100000 in
theorem ubw_39 : Cond.code ⟨"UpdateRobot", "<init>", "(I)V"⟩ prog_1_method_1_code 2 none ∈ ub_T := List.mem_filter.mpr ⟨List.mem_of_getElem? (i := 39) rfl, rfl⟩
set_option maxRecDepth 100000 in
theorem ubw_40 : Cond.methodLink "UpdateRobot" 1 ⟨"java/lang/Object", "<init>", "()V"⟩ ∈ ub_T := List.mem_filter.mpr ⟨List.mem_of_getElem? (i := 40) (by decide +kernel), rfl⟩
set_option maxRecDepth 100000 in
theorem ubw_41 : Cond.instanceMethod ⟨"java/lang/Object", "<init>", "()V"⟩ ∈ ub_T := List.mem_filter.mpr ⟨List.mem_of_getElem? (i := 41) (by decide +kernel), rfl⟩
set_option maxRecDepth 100000 in
theorem ubw_42 : Cond.code ⟨"java/lang/Object", "<init>", "()V"⟩ object_method_1_code 1 none ∈ ub_T := List.mem_filter.mpr ⟨List.mem_of_getElem? (i := 42) rfl, rfl⟩
set_option maxRecDepth 100000 in
theorem ubw_43 : Cond.methodLink "UpdateRobot" 9 ⟨"java/lang/Math", "min", "(II)I"⟩ ∈ ub_T := List.mem_filter.mpr ⟨List.mem_of_getElem? (i := 43) (by decide +kernel), rfl⟩
set_option maxRecDepth 100000 in
theorem ubw_44 : Cond.static ⟨"java/lang/Math", "min", "(II)I"⟩ ∈ ub_T := List.mem_filter.mpr ⟨List.mem_of_getElem? (i := 44) (by decide +kernel), rfl⟩
set_option maxRecDepth 100000 in
theorem ubw_45 : Cond.code ⟨"java/lang/Math", "min", "(II)I"⟩ prog_7_method_69_code 2 (some .int) ∈ ub_T := List.mem_filter.mpr ⟨List.mem_of_getElem? (i := 45) rfl, rfl⟩
set_option maxRecDepth 100000 in
theorem ubw_46 : Cond.methodLink "UpdateRobot" 15 ⟨"java/lang/Math", "max", "(II)I"⟩ ∈ ub_T := List.mem_filter.mpr ⟨List.mem_of_getElem? (i := 46) (by decide +kernel), rfl⟩
set_option maxRecDepth 100000 in
theorem ubw_47 : Cond.static ⟨"java/lang/Math", "max", "(II)I"⟩ ∈ ub_T := List.mem_filter.mpr ⟨List.mem_of_getElem? (i := 47) (by decide +kernel), rfl⟩
set_option maxRecDepth 100000 in
theorem ubw_48 : Cond.code ⟨"java/lang/Math", "max", "(II)I"⟩ prog_7_method_65_code 2 (some .int) ∈ ub_T := List.mem_filter.mpr ⟨List.mem_of_getElem? (i := 48) rfl, rfl⟩
set_option maxRecDepth 100000 in
theorem ubw_49 : Cond.classLink "UpdateRobot" 22 "UpdateRobot$Names" ∈ ub_T := List.mem_filter.mpr ⟨List.mem_of_getElem? (i := 49) (by decide +kernel), rfl⟩
set_option maxRecDepth 100000 in
theorem ubw_50 : Cond.instantiable "UpdateRobot$Names" 12 ∈ ub_T := List.mem_filter.mpr ⟨List.mem_of_getElem? (i := 50) (by decide +kernel), rfl⟩
set_option maxRecDepth 100000 in
theorem ubw_51 : Cond.methodLink "UpdateRobot" 24 ⟨"UpdateRobot$Names", "<init>", "()V"⟩ ∈ ub_T := List.mem_filter.mpr ⟨List.mem_of_getElem? (i := 51) (by decide +kernel), rfl⟩
set_option maxRecDepth 100000 in
theorem ubw_52 : Cond.instanceMethod ⟨"UpdateRobot$Names", "<init>", "()V"⟩ ∈ ub_T := List.mem_filter.mpr ⟨List.mem_of_getElem? (i := 52) (by decide +kernel), rfl⟩
set_option maxRecDepth 100000 in
theorem ubw_53 : Cond.code ⟨"UpdateRobot$Names", "<init>", "()V"⟩ prog_2_method_1_code 1 none ∈ ub_T := List.mem_filter.mpr ⟨List.mem_of_getElem? (i := 53) rfl, rfl⟩
set_option maxRecDepth 100000 in
theorem ubw_54 : Cond.methodLink "UpdateRobot$Names" 3 ⟨"java/lang/Object", "<init>", "()V"⟩ ∈ ub_T := List.mem_filter.mpr ⟨List.mem_of_getElem? (i := 54) (by decide +kernel), rfl⟩
set_option maxRecDepth 100000 in
theorem ubw_55 : Cond.classLink "UpdateRobot$Names" 40 "[[I" ∈ ub_T := List.mem_filter.mpr ⟨List.mem_of_getElem? (i := 55) (by decide +kernel), rfl⟩
set_option maxRecDepth 100000 in
theorem ubw_57 : Cond.fieldLink "UpdateRobot$Names" 9 "UpdateRobot$Names" "count" "I" ∈ ub_T := List.mem_filter.mpr ⟨List.mem_of_getElem? (i := 57) (by decide +kernel), rfl⟩
set_option maxRecDepth 100000 in
theorem ubw_58 : Cond.fieldLink "UpdateRobot$Solver" 42 "UpdateRobot$Names" "count" "I" ∈ ub_T := List.mem_filter.mpr ⟨List.mem_of_getElem? (i := 58) (by decide +kernel), rfl⟩
set_option maxRecDepth 100000 in
theorem ubw_59 : Cond.fieldLink "UpdateRobot" 108 "UpdateRobot$Names" "count" "I" ∈ ub_T := List.mem_filter.mpr ⟨List.mem_of_getElem? (i := 59) (by decide +kernel), rfl⟩
set_option maxRecDepth 100000 in
theorem ubw_60 : Cond.fieldLink "UpdateRobot$Names" 15 "UpdateRobot$Names" "repository" "[I" ∈ ub_T := List.mem_filter.mpr ⟨List.mem_of_getElem? (i := 60) (by decide +kernel), rfl⟩
set_option maxRecDepth 100000 in
theorem ubw_61 : Cond.fieldLink "UpdateRobot" 184 "UpdateRobot$Names" "repository" "[I" ∈ ub_T := List.mem_filter.mpr ⟨List.mem_of_getElem? (i := 61) (by decide +kernel), rfl⟩
set_option maxRecDepth 100000 in
theorem ubw_62 : Cond.fieldLink "UpdateRobot$Names" 19 "UpdateRobot$Names" "versions" "[I" ∈ ub_T := List.mem_filter.mpr ⟨List.mem_of_getElem? (i := 62) (by decide +kernel), rfl⟩
set_option maxRecDepth 100000 in
theorem ubw_63 : Cond.fieldLink "UpdateRobot$Names" 22 "UpdateRobot$Names" "had" "[I" ∈ ub_T := List.mem_filter.mpr ⟨List.mem_of_getElem? (i := 63) (by decide +kernel), rfl⟩
set_option maxRecDepth 100000 in
theorem ubw_64 : Cond.fieldLink "UpdateRobot$Solver" 52 "UpdateRobot$Names" "had" "[I" ∈ ub_T := List.mem_filter.mpr ⟨List.mem_of_getElem? (i := 64) (by decide +kernel), rfl⟩
set_option maxRecDepth 100000 in
theorem ubw_65 : Cond.fieldLink "UpdateRobot" 87 "UpdateRobot$Names" "had" "[I" ∈ ub_T := List.mem_filter.mpr ⟨List.mem_of_getElem? (i := 65) (by decide +kernel), rfl⟩
set_option maxRecDepth 100000 in
theorem ubw_66 : Cond.fieldLink "UpdateRobot$Names" 25 "UpdateRobot$Names" "allowed" "[I" ∈ ub_T := List.mem_filter.mpr ⟨List.mem_of_getElem? (i := 66) (by decide +kernel), rfl⟩
set_option maxRecDepth 100000 in
theorem ubw_67 : Cond.fieldLink "UpdateRobot" 74 "UpdateRobot$Names" "allowed" "[I" ∈ ub_T := List.mem_filter.mpr ⟨List.mem_of_getElem? (i := 67) (by decide +kernel), rfl⟩
set_option maxRecDepth 100000 in
theorem ubw_68 : Cond.fieldLink "UpdateRobot$Names" 28 "UpdateRobot$Names" "every" "[I" ∈ ub_T := List.mem_filter.mpr ⟨List.mem_of_getElem? (i := 68) (by decide +kernel), rfl⟩
set_option maxRecDepth 100000 in
theorem ubw_69 : Cond.fieldLink "UpdateRobot" 78 "UpdateRobot$Names" "every" "[I" ∈ ub_T := List.mem_filter.mpr ⟨List.mem_of_getElem? (i := 69) (by decide +kernel), rfl⟩
set_option maxRecDepth 100000 in
theorem ubw_70 : Cond.fieldLink "UpdateRobot$Names" 31 "UpdateRobot$Names" "group" "[I" ∈ ub_T := List.mem_filter.mpr ⟨List.mem_of_getElem? (i := 70) (by decide +kernel), rfl⟩
set_option maxRecDepth 100000 in
theorem ubw_71 : Cond.fieldLink "UpdateRobot" 81 "UpdateRobot$Names" "group" "[I" ∈ ub_T := List.mem_filter.mpr ⟨List.mem_of_getElem? (i := 71) (by decide +kernel), rfl⟩
set_option maxRecDepth 100000 in
theorem ubw_72 : Cond.fieldLink "UpdateRobot$Names" 34 "UpdateRobot$Names" "advised" "[I" ∈ ub_T := List.mem_filter.mpr ⟨List.mem_of_getElem? (i := 72) (by decide +kernel), rfl⟩
set_option maxRecDepth 100000 in
theorem ubw_73 : Cond.fieldLink "UpdateRobot" 84 "UpdateRobot$Names" "advised" "[I" ∈ ub_T := List.mem_filter.mpr ⟨List.mem_of_getElem? (i := 73) (by decide +kernel), rfl⟩
set_option maxRecDepth 100000 in
theorem ubw_74 : Cond.fieldLink "UpdateRobot$Names" 37 "UpdateRobot$Names" "dueAt" "[I" ∈ ub_T := List.mem_filter.mpr ⟨List.mem_of_getElem? (i := 74) (by decide +kernel), rfl⟩
set_option maxRecDepth 100000 in
theorem ubw_75 : Cond.fieldLink "UpdateRobot" 112 "UpdateRobot$Names" "dueAt" "[I" ∈ ub_T := List.mem_filter.mpr ⟨List.mem_of_getElem? (i := 75) (by decide +kernel), rfl⟩
set_option maxRecDepth 100000 in
theorem ubw_76 : Cond.fieldLink "UpdateRobot$Names" 42 "UpdateRobot$Names" "kind" "[[I" ∈ ub_T := List.mem_filter.mpr ⟨List.mem_of_getElem? (i := 76) (by decide +kernel), rfl⟩
set_option maxRecDepth 100000 in
theorem ubw_77 : Cond.fieldLink "UpdateRobot$Names" 45 "UpdateRobot$Names" "needed" "[[I" ∈ ub_T := List.mem_filter.mpr ⟨List.mem_of_getElem? (i := 77) (by decide +kernel), rfl⟩
set_option maxRecDepth 100000 in
theorem ubw_78 : Cond.fieldLink "UpdateRobot$Solver" 26 "UpdateRobot$Names" "needed" "[[I" ∈ ub_T := List.mem_filter.mpr ⟨List.mem_of_getElem? (i := 78) (by decide +kernel), rfl⟩
set_option maxRecDepth 100000 in
theorem ubw_79 : Cond.fieldLink "UpdateRobot" 67 "UpdateRobot$Names" "needed" "[[I" ∈ ub_T := List.mem_filter.mpr ⟨List.mem_of_getElem? (i := 79) (by decide +kernel), rfl⟩
set_option maxRecDepth 100000 in
theorem ubw_80 : Cond.fieldLink "UpdateRobot$Names" 48 "UpdateRobot$Names" "neededLeast" "[[I" ∈ ub_T := List.mem_filter.mpr ⟨List.mem_of_getElem? (i := 80) (by decide +kernel), rfl⟩
set_option maxRecDepth 100000 in
theorem ubw_81 : Cond.fieldLink "UpdateRobot$Solver" 32 "UpdateRobot$Names" "neededLeast" "[[I" ∈ ub_T := List.mem_filter.mpr ⟨List.mem_of_getElem? (i := 81) (by decide +kernel), rfl⟩
set_option maxRecDepth 100000 in
theorem ubw_82 : Cond.fieldLink "UpdateRobot" 71 "UpdateRobot$Names" "neededLeast" "[[I" ∈ ub_T := List.mem_filter.mpr ⟨List.mem_of_getElem? (i := 82) (by decide +kernel), rfl⟩
set_option maxRecDepth 100000 in
theorem ubw_108 : Cond.arrayClass .int ∈ ub_T := List.mem_filter.mpr ⟨List.mem_of_getElem? (i := 108) (by decide +kernel), rfl⟩
set_option maxRecDepth 100000 in
theorem ubw_109 : Cond.classLink "UpdateRobot" 29 "UpdateRobot$Solver" ∈ ub_T := List.mem_filter.mpr ⟨List.mem_of_getElem? (i := 109) (by decide +kernel), rfl⟩
set_option maxRecDepth 100000 in
theorem ubw_110 : Cond.instantiable "UpdateRobot$Solver" 2 ∈ ub_T := List.mem_filter.mpr ⟨List.mem_of_getElem? (i := 110) (by decide +kernel), rfl⟩
set_option maxRecDepth 100000 in
theorem ubw_111 : Cond.methodLink "UpdateRobot" 31 ⟨"UpdateRobot$Solver", "<init>", "()V"⟩ ∈ ub_T := List.mem_filter.mpr ⟨List.mem_of_getElem? (i := 111) (by decide +kernel), rfl⟩
set_option maxRecDepth 100000 in
theorem ubw_112 : Cond.instanceMethod ⟨"UpdateRobot$Solver", "<init>", "()V"⟩ ∈ ub_T := List.mem_filter.mpr ⟨List.mem_of_getElem? (i := 112) (by decide +kernel), rfl⟩
set_option maxRecDepth 100000 in
theorem ubw_113 : Cond.code ⟨"UpdateRobot$Solver", "<init>", "()V"⟩ prog_4_method_1_code 1 none ∈ ub_T := List.mem_filter.mpr ⟨List.mem_of_getElem? (i := 113) rfl, rfl⟩
set_option maxRecDepth 100000 in
theorem ubw_114 : Cond.methodLink "UpdateRobot$Solver" 3 ⟨"java/lang/Object", "<init>", "()V"⟩ ∈ ub_T := List.mem_filter.mpr ⟨List.mem_of_getElem? (i := 114) (by decide +kernel), rfl⟩
set_option maxRecDepth 100000 in
theorem ubw_115 : Cond.fieldLink "UpdateRobot$Solver" 9 "UpdateRobot$Solver" "targets" "[I" ∈ ub_T := List.mem_filter.mpr ⟨List.mem_of_getElem? (i := 115) (by decide +kernel), rfl⟩
set_option maxRecDepth 100000 in
theorem ubw_116 : Cond.fieldLink "UpdateRobot$Solver" 15 "UpdateRobot$Solver" "raised" "[I" ∈ ub_T := List.mem_filter.mpr ⟨List.mem_of_getElem? (i := 116) (by decide +kernel), rfl⟩
set_option maxRecDepth 100000 in
theorem ubw_117 : Cond.fieldLink "UpdateRobot" 165 "UpdateRobot$Solver" "raised" "[I" ∈ ub_T := List.mem_filter.mpr ⟨List.mem_of_getElem? (i := 117) (by decide +kernel), rfl⟩
set_option maxRecDepth 100000 in
theorem ubw_123 : Cond.classLink "UpdateRobot" 36 "UpdateRobot$Proposals" ∈ ub_T := List.mem_filter.mpr ⟨List.mem_of_getElem? (i := 123) (by decide +kernel), rfl⟩
set_option maxRecDepth 100000 in
theorem ubw_124 : Cond.instantiable "UpdateRobot$Proposals" 7 ∈ ub_T := List.mem_filter.mpr ⟨List.mem_of_getElem? (i := 124) (by decide +kernel), rfl⟩
set_option maxRecDepth 100000 in
theorem ubw_125 : Cond.methodLink "UpdateRobot" 38 ⟨"UpdateRobot$Proposals", "<init>", "()V"⟩ ∈ ub_T := List.mem_filter.mpr ⟨List.mem_of_getElem? (i := 125) (by decide +kernel), rfl⟩
set_option maxRecDepth 100000 in
theorem ubw_126 : Cond.instanceMethod ⟨"UpdateRobot$Proposals", "<init>", "()V"⟩ ∈ ub_T := List.mem_filter.mpr ⟨List.mem_of_getElem? (i := 126) (by decide +kernel), rfl⟩
set_option maxRecDepth 100000 in
theorem ubw_127 : Cond.code ⟨"UpdateRobot$Proposals", "<init>", "()V"⟩ prog_3_method_1_code 1 none ∈ ub_T := List.mem_filter.mpr ⟨List.mem_of_getElem? (i := 127) rfl, rfl⟩
set_option maxRecDepth 100000 in
theorem ubw_128 : Cond.methodLink "UpdateRobot$Proposals" 3 ⟨"java/lang/Object", "<init>", "()V"⟩ ∈ ub_T := List.mem_filter.mpr ⟨List.mem_of_getElem? (i := 128) (by decide +kernel), rfl⟩
set_option maxRecDepth 100000 in
theorem ubw_129 : Cond.classLink "UpdateRobot$Proposals" 32 "[[I" ∈ ub_T := List.mem_filter.mpr ⟨List.mem_of_getElem? (i := 129) (by decide +kernel), rfl⟩
set_option maxRecDepth 100000 in
theorem ubw_130 : Cond.fieldLink "UpdateRobot$Proposals" 9 "UpdateRobot$Proposals" "count" "I" ∈ ub_T := List.mem_filter.mpr ⟨List.mem_of_getElem? (i := 130) (by decide +kernel), rfl⟩
set_option maxRecDepth 100000 in
theorem ubw_131 : Cond.fieldLink "UpdateRobot" 105 "UpdateRobot$Proposals" "count" "I" ∈ ub_T := List.mem_filter.mpr ⟨List.mem_of_getElem? (i := 131) (by decide +kernel), rfl⟩
set_option maxRecDepth 100000 in
theorem ubw_132 : Cond.fieldLink "UpdateRobot$Proposals" 15 "UpdateRobot$Proposals" "state" "[I" ∈ ub_T := List.mem_filter.mpr ⟨List.mem_of_getElem? (i := 132) (by decide +kernel), rfl⟩
set_option maxRecDepth 100000 in
theorem ubw_133 : Cond.fieldLink "UpdateRobot" 120 "UpdateRobot$Proposals" "state" "[I" ∈ ub_T := List.mem_filter.mpr ⟨List.mem_of_getElem? (i := 133) (by decide +kernel), rfl⟩
set_option maxRecDepth 100000 in
theorem ubw_134 : Cond.fieldLink "UpdateRobot$Proposals" 19 "UpdateRobot$Proposals" "chief" "[I" ∈ ub_T := List.mem_filter.mpr ⟨List.mem_of_getElem? (i := 134) (by decide +kernel), rfl⟩
set_option maxRecDepth 100000 in
theorem ubw_135 : Cond.fieldLink "UpdateRobot" 123 "UpdateRobot$Proposals" "chief" "[I" ∈ ub_T := List.mem_filter.mpr ⟨List.mem_of_getElem? (i := 135) (by decide +kernel), rfl⟩
set_option maxRecDepth 100000 in
theorem ubw_136 : Cond.fieldLink "UpdateRobot$Proposals" 22 "UpdateRobot$Proposals" "redone" "[I" ∈ ub_T := List.mem_filter.mpr ⟨List.mem_of_getElem? (i := 136) (by decide +kernel), rfl⟩
set_option maxRecDepth 100000 in
theorem ubw_137 : Cond.fieldLink "UpdateRobot" 126 "UpdateRobot$Proposals" "redone" "[I" ∈ ub_T := List.mem_filter.mpr ⟨List.mem_of_getElem? (i := 137) (by decide +kernel), rfl⟩
set_option maxRecDepth 100000 in
theorem ubw_138 : Cond.fieldLink "UpdateRobot$Proposals" 25 "UpdateRobot$Proposals" "openedAt" "[I" ∈ ub_T := List.mem_filter.mpr ⟨List.mem_of_getElem? (i := 138) (by decide +kernel), rfl⟩
set_option maxRecDepth 100000 in
theorem ubw_139 : Cond.fieldLink "UpdateRobot" 129 "UpdateRobot$Proposals" "openedAt" "[I" ∈ ub_T := List.mem_filter.mpr ⟨List.mem_of_getElem? (i := 139) (by decide +kernel), rfl⟩
set_option maxRecDepth 100000 in
theorem ubw_140 : Cond.fieldLink "UpdateRobot$Proposals" 28 "UpdateRobot$Proposals" "hit" "[Z" ∈ ub_T := List.mem_filter.mpr ⟨List.mem_of_getElem? (i := 140) (by decide +kernel), rfl⟩
set_option maxRecDepth 100000 in
theorem ubw_141 : Cond.fieldLink "UpdateRobot" 132 "UpdateRobot$Proposals" "hit" "[Z" ∈ ub_T := List.mem_filter.mpr ⟨List.mem_of_getElem? (i := 141) (by decide +kernel), rfl⟩
set_option maxRecDepth 100000 in
theorem ubw_142 : Cond.fieldLink "UpdateRobot$Proposals" 34 "UpdateRobot$Proposals" "raised" "[[I" ∈ ub_T := List.mem_filter.mpr ⟨List.mem_of_getElem? (i := 142) (by decide +kernel), rfl⟩
set_option maxRecDepth 100000 in
theorem ubw_143 : Cond.fieldLink "UpdateRobot" 136 "UpdateRobot$Proposals" "raised" "[[I" ∈ ub_T := List.mem_filter.mpr ⟨List.mem_of_getElem? (i := 143) (by decide +kernel), rfl⟩
set_option maxRecDepth 100000 in
theorem ubw_159 : Cond.arrayClass .boolean ∈ ub_T := List.mem_filter.mpr ⟨List.mem_of_getElem? (i := 159) (by decide +kernel), rfl⟩
set_option maxRecDepth 100000 in
theorem ubw_160 : Cond.fieldLink "UpdateRobot" 18 "UpdateRobot" "limit" "I" ∈ ub_T := List.mem_filter.mpr ⟨List.mem_of_getElem? (i := 160) (by decide +kernel), rfl⟩
set_option maxRecDepth 100000 in
theorem ubw_161 : Cond.fieldLink "UpdateRobot" 25 "UpdateRobot" "names" "LUpdateRobot$Names;" ∈ ub_T := List.mem_filter.mpr ⟨List.mem_of_getElem? (i := 161) (by decide +kernel), rfl⟩
set_option maxRecDepth 100000 in
theorem ubw_162 : Cond.fieldLink "UpdateRobot" 32 "UpdateRobot" "solver" "LUpdateRobot$Solver;" ∈ ub_T := List.mem_filter.mpr ⟨List.mem_of_getElem? (i := 162) (by decide +kernel), rfl⟩
set_option maxRecDepth 100000 in
theorem ubw_163 : Cond.fieldLink "UpdateRobot" 39 "UpdateRobot" "proposals" "LUpdateRobot$Proposals;" ∈ ub_T := List.mem_filter.mpr ⟨List.mem_of_getElem? (i := 163) (by decide +kernel), rfl⟩
set_option maxRecDepth 100000 in
theorem ubw_164 : Cond.fieldLink "UpdateRobot" 43 "UpdateRobot" "clock" "I" ∈ ub_T := List.mem_filter.mpr ⟨List.mem_of_getElem? (i := 164) (by decide +kernel), rfl⟩
set_option maxRecDepth 100000 in
theorem ubw_165 : Cond.fieldLink "UpdateRobot" 46 "UpdateRobot" "waited" "I" ∈ ub_T := List.mem_filter.mpr ⟨List.mem_of_getElem? (i := 165) (by decide +kernel), rfl⟩
set_option maxRecDepth 100000 in
theorem ubw_179 : Cond.methodLink "UpdateRobotLaw" 21 ⟨"UpdateRobot", "name", "(I)I"⟩ ∈ ub_T := List.mem_filter.mpr ⟨List.mem_of_getElem? (i := 179) (by decide +kernel), rfl⟩
set_option maxRecDepth 100000 in
theorem ubw_180 : Cond.instanceMethod ⟨"UpdateRobot", "name", "(I)I"⟩ ∈ ub_T := List.mem_filter.mpr ⟨List.mem_of_getElem? (i := 180) (by decide +kernel), rfl⟩
set_option maxRecDepth 100000 in
theorem ubw_181 : Cond.selects "UpdateRobot" ⟨"UpdateRobot", "name", "(I)I"⟩ ⟨"UpdateRobot", "name", "(I)I"⟩ ∈ ub_T := List.mem_filter.mpr ⟨List.mem_of_getElem? (i := 181) (by decide +kernel), rfl⟩
set_option maxRecDepth 100000 in
theorem ubw_182 : Cond.code ⟨"UpdateRobot", "name", "(I)I"⟩ prog_1_method_2_code 2 (some .int) ∈ ub_T := List.mem_filter.mpr ⟨List.mem_of_getElem? (i := 182) rfl, rfl⟩
set_option maxRecDepth 100000 in
theorem ubw_183 : Cond.methodLink "UpdateRobot" 49 ⟨"UpdateRobot", "isRepository", "(I)Z"⟩ ∈ ub_T := List.mem_filter.mpr ⟨List.mem_of_getElem? (i := 183) (by decide +kernel), rfl⟩
set_option maxRecDepth 100000 in
theorem ubw_184 : Cond.static ⟨"UpdateRobot", "isRepository", "(I)Z"⟩ ∈ ub_T := List.mem_filter.mpr ⟨List.mem_of_getElem? (i := 184) (by decide +kernel), rfl⟩
set_option maxRecDepth 100000 in
theorem ubw_185 : Cond.code ⟨"UpdateRobot", "isRepository", "(I)Z"⟩ prog_1_method_18_code 1 (some .boolean) ∈ ub_T := List.mem_filter.mpr ⟨List.mem_of_getElem? (i := 185) rfl, rfl⟩
set_option maxRecDepth 100000 in
theorem ubw_186 : Cond.methodLink "UpdateRobot" 53 ⟨"UpdateRobot$Names", "add", "(I)I"⟩ ∈ ub_T := List.mem_filter.mpr ⟨List.mem_of_getElem? (i := 186) (by decide +kernel), rfl⟩
set_option maxRecDepth 100000 in
theorem ubw_187 : Cond.instanceMethod ⟨"UpdateRobot$Names", "add", "(I)I"⟩ ∈ ub_T := List.mem_filter.mpr ⟨List.mem_of_getElem? (i := 187) (by decide +kernel), rfl⟩
set_option maxRecDepth 100000 in
theorem ubw_188 : Cond.selects "UpdateRobot$Names" ⟨"UpdateRobot$Names", "add", "(I)I"⟩ ⟨"UpdateRobot$Names", "add", "(I)I"⟩ ∈ ub_T := List.mem_filter.mpr ⟨List.mem_of_getElem? (i := 188) (by decide +kernel), rfl⟩
set_option maxRecDepth 100000 in
theorem ubw_189 : Cond.code ⟨"UpdateRobot$Names", "add", "(I)I"⟩ prog_2_method_4_code 3 (some .int) ∈ ub_T := List.mem_filter.mpr ⟨List.mem_of_getElem? (i := 189) rfl, rfl⟩
set_option maxRecDepth 100000 in
theorem ubw_190 : Cond.methodLink "UpdateRobotLaw" 26 ⟨"UpdateRobot", "newer", "(II)I"⟩ ∈ ub_T := List.mem_filter.mpr ⟨List.mem_of_getElem? (i := 190) (by decide +kernel), rfl⟩
set_option maxRecDepth 100000 in
theorem ubw_191 : Cond.instanceMethod ⟨"UpdateRobot", "newer", "(II)I"⟩ ∈ ub_T := List.mem_filter.mpr ⟨List.mem_of_getElem? (i := 191) (by decide +kernel), rfl⟩
set_option maxRecDepth 100000 in
theorem ubw_192 : Cond.selects "UpdateRobot" ⟨"UpdateRobot", "newer", "(II)I"⟩ ⟨"UpdateRobot", "newer", "(II)I"⟩ ∈ ub_T := List.mem_filter.mpr ⟨List.mem_of_getElem? (i := 192) (by decide +kernel), rfl⟩
set_option maxRecDepth 100000 in
theorem ubw_193 : Cond.code ⟨"UpdateRobot", "newer", "(II)I"⟩ prog_1_method_3_code 3 (some .int) ∈ ub_T := List.mem_filter.mpr ⟨List.mem_of_getElem? (i := 193) rfl, rfl⟩
set_option maxRecDepth 100000 in
theorem ubw_194 : Cond.methodLink "UpdateRobot" 57 ⟨"UpdateRobot$Names", "isKnown", "(I)Z"⟩ ∈ ub_T := List.mem_filter.mpr ⟨List.mem_of_getElem? (i := 194) (by decide +kernel), rfl⟩
set_option maxRecDepth 100000 in
theorem ubw_195 : Cond.instanceMethod ⟨"UpdateRobot$Names", "isKnown", "(I)Z"⟩ ∈ ub_T := List.mem_filter.mpr ⟨List.mem_of_getElem? (i := 195) (by decide +kernel), rfl⟩
set_option maxRecDepth 100000 in
theorem ubw_196 : Cond.selects "UpdateRobot$Names" ⟨"UpdateRobot$Names", "isKnown", "(I)Z"⟩ ⟨"UpdateRobot$Names", "isKnown", "(I)Z"⟩ ∈ ub_T := List.mem_filter.mpr ⟨List.mem_of_getElem? (i := 196) (by decide +kernel), rfl⟩
set_option maxRecDepth 100000 in
theorem ubw_197 : Cond.code ⟨"UpdateRobot$Names", "isKnown", "(I)Z"⟩ prog_2_method_2_code 2 (some .boolean) ∈ ub_T := List.mem_filter.mpr ⟨List.mem_of_getElem? (i := 197) rfl, rfl⟩
set_option maxRecDepth 100000 in
theorem ubw_198 : Cond.methodLink "UpdateRobot" 60 ⟨"UpdateRobot$Names", "addVersion", "(II)I"⟩ ∈ ub_T := List.mem_filter.mpr ⟨List.mem_of_getElem? (i := 198) (by decide +kernel), rfl⟩
set_option maxRecDepth 100000 in
theorem ubw_199 : Cond.instanceMethod ⟨"UpdateRobot$Names", "addVersion", "(II)I"⟩ ∈ ub_T := List.mem_filter.mpr ⟨List.mem_of_getElem? (i := 199) (by decide +kernel), rfl⟩
set_option maxRecDepth 100000 in
theorem ubw_200 : Cond.selects "UpdateRobot$Names" ⟨"UpdateRobot$Names", "addVersion", "(II)I"⟩ ⟨"UpdateRobot$Names", "addVersion", "(II)I"⟩ ∈ ub_T := List.mem_filter.mpr ⟨List.mem_of_getElem? (i := 200) (by decide +kernel), rfl⟩
set_option maxRecDepth 100000 in
theorem ubw_201 : Cond.code ⟨"UpdateRobot$Names", "addVersion", "(II)I"⟩ prog_2_method_5_code 4 (some .int) ∈ ub_T := List.mem_filter.mpr ⟨List.mem_of_getElem? (i := 201) rfl, rfl⟩
set_option maxRecDepth 100000 in
theorem ubw_202 : Cond.methodLink "UpdateRobotLaw" 31 ⟨"UpdateRobot", "needs", "(IIII)Z"⟩ ∈ ub_T := List.mem_filter.mpr ⟨List.mem_of_getElem? (i := 202) (by decide +kernel), rfl⟩
set_option maxRecDepth 100000 in
theorem ubw_203 : Cond.instanceMethod ⟨"UpdateRobot", "needs", "(IIII)Z"⟩ ∈ ub_T := List.mem_filter.mpr ⟨List.mem_of_getElem? (i := 203) (by decide +kernel), rfl⟩
set_option maxRecDepth 100000 in
theorem ubw_204 : Cond.selects "UpdateRobot" ⟨"UpdateRobot", "needs", "(IIII)Z"⟩ ⟨"UpdateRobot", "needs", "(IIII)Z"⟩ ∈ ub_T := List.mem_filter.mpr ⟨List.mem_of_getElem? (i := 204) (by decide +kernel), rfl⟩
set_option maxRecDepth 100000 in
theorem ubw_205 : Cond.code ⟨"UpdateRobot", "needs", "(IIII)Z"⟩ prog_1_method_4_code 5 (some .boolean) ∈ ub_T := List.mem_filter.mpr ⟨List.mem_of_getElem? (i := 205) rfl, rfl⟩
set_option maxRecDepth 100000 in
theorem ubw_206 : Cond.methodLink "UpdateRobot" 63 ⟨"UpdateRobot$Names", "hasVersion", "(II)Z"⟩ ∈ ub_T := List.mem_filter.mpr ⟨List.mem_of_getElem? (i := 206) (by decide +kernel), rfl⟩
set_option maxRecDepth 100000 in
theorem ubw_207 : Cond.instanceMethod ⟨"UpdateRobot$Names", "hasVersion", "(II)Z"⟩ ∈ ub_T := List.mem_filter.mpr ⟨List.mem_of_getElem? (i := 207) (by decide +kernel), rfl⟩
set_option maxRecDepth 100000 in
theorem ubw_208 : Cond.selects "UpdateRobot$Names" ⟨"UpdateRobot$Names", "hasVersion", "(II)Z"⟩ ⟨"UpdateRobot$Names", "hasVersion", "(II)Z"⟩ ∈ ub_T := List.mem_filter.mpr ⟨List.mem_of_getElem? (i := 208) (by decide +kernel), rfl⟩
set_option maxRecDepth 100000 in
theorem ubw_209 : Cond.code ⟨"UpdateRobot$Names", "hasVersion", "(II)Z"⟩ prog_2_method_3_code 3 (some .boolean) ∈ ub_T := List.mem_filter.mpr ⟨List.mem_of_getElem? (i := 209) rfl, rfl⟩
set_option maxRecDepth 100000 in
theorem ubw_210 : Cond.methodLink "UpdateRobot$Names" 51 ⟨"UpdateRobot$Names", "isKnown", "(I)Z"⟩ ∈ ub_T := List.mem_filter.mpr ⟨List.mem_of_getElem? (i := 210) (by decide +kernel), rfl⟩
set_option maxRecDepth 100000 in
theorem ubw_211 : Cond.methodLink "UpdateRobotLaw" 36 ⟨"UpdateRobot", "rule", "(IIII)Z"⟩ ∈ ub_T := List.mem_filter.mpr ⟨List.mem_of_getElem? (i := 211) (by decide +kernel), rfl⟩
set_option maxRecDepth 100000 in
theorem ubw_212 : Cond.instanceMethod ⟨"UpdateRobot", "rule", "(IIII)Z"⟩ ∈ ub_T := List.mem_filter.mpr ⟨List.mem_of_getElem? (i := 212) (by decide +kernel), rfl⟩
set_option maxRecDepth 100000 in
theorem ubw_213 : Cond.selects "UpdateRobot" ⟨"UpdateRobot", "rule", "(IIII)Z"⟩ ⟨"UpdateRobot", "rule", "(IIII)Z"⟩ ∈ ub_T := List.mem_filter.mpr ⟨List.mem_of_getElem? (i := 213) (by decide +kernel), rfl⟩
set_option maxRecDepth 100000 in
theorem ubw_214 : Cond.code ⟨"UpdateRobot", "rule", "(IIII)Z"⟩ prog_1_method_5_code 5 (some .boolean) ∈ ub_T := List.mem_filter.mpr ⟨List.mem_of_getElem? (i := 214) rfl, rfl⟩
set_option maxRecDepth 100000 in
theorem ubw_215 : Cond.methodLink "UpdateRobotLaw" 40 ⟨"UpdateRobot", "advise", "(II)Z"⟩ ∈ ub_T := List.mem_filter.mpr ⟨List.mem_of_getElem? (i := 215) (by decide +kernel), rfl⟩
set_option maxRecDepth 100000 in
theorem ubw_216 : Cond.instanceMethod ⟨"UpdateRobot", "advise", "(II)Z"⟩ ∈ ub_T := List.mem_filter.mpr ⟨List.mem_of_getElem? (i := 216) (by decide +kernel), rfl⟩
set_option maxRecDepth 100000 in
theorem ubw_217 : Cond.selects "UpdateRobot" ⟨"UpdateRobot", "advise", "(II)Z"⟩ ⟨"UpdateRobot", "advise", "(II)Z"⟩ ∈ ub_T := List.mem_filter.mpr ⟨List.mem_of_getElem? (i := 217) (by decide +kernel), rfl⟩
set_option maxRecDepth 100000 in
theorem ubw_218 : Cond.code ⟨"UpdateRobot", "advise", "(II)Z"⟩ prog_1_method_6_code 3 (some .boolean) ∈ ub_T := List.mem_filter.mpr ⟨List.mem_of_getElem? (i := 218) rfl, rfl⟩
set_option maxRecDepth 100000 in
theorem ubw_219 : Cond.methodLink "UpdateRobotLaw" 45 ⟨"UpdateRobot", "has", "(I)I"⟩ ∈ ub_T := List.mem_filter.mpr ⟨List.mem_of_getElem? (i := 219) (by decide +kernel), rfl⟩
set_option maxRecDepth 100000 in
theorem ubw_220 : Cond.instanceMethod ⟨"UpdateRobot", "has", "(I)I"⟩ ∈ ub_T := List.mem_filter.mpr ⟨List.mem_of_getElem? (i := 220) (by decide +kernel), rfl⟩
set_option maxRecDepth 100000 in
theorem ubw_221 : Cond.selects "UpdateRobot" ⟨"UpdateRobot", "has", "(I)I"⟩ ⟨"UpdateRobot", "has", "(I)I"⟩ ∈ ub_T := List.mem_filter.mpr ⟨List.mem_of_getElem? (i := 221) (by decide +kernel), rfl⟩
set_option maxRecDepth 100000 in
theorem ubw_222 : Cond.code ⟨"UpdateRobot", "has", "(I)I"⟩ prog_1_method_7_code 2 (some .int) ∈ ub_T := List.mem_filter.mpr ⟨List.mem_of_getElem? (i := 222) rfl, rfl⟩
set_option maxRecDepth 100000 in
theorem ubw_223 : Cond.methodLink "UpdateRobotLaw" 49 ⟨"UpdateRobot", "goal", "(I)I"⟩ ∈ ub_T := List.mem_filter.mpr ⟨List.mem_of_getElem? (i := 223) (by decide +kernel), rfl⟩
set_option maxRecDepth 100000 in
theorem ubw_224 : Cond.instanceMethod ⟨"UpdateRobot", "goal", "(I)I"⟩ ∈ ub_T := List.mem_filter.mpr ⟨List.mem_of_getElem? (i := 224) (by decide +kernel), rfl⟩
set_option maxRecDepth 100000 in
theorem ubw_225 : Cond.selects "UpdateRobot" ⟨"UpdateRobot", "goal", "(I)I"⟩ ⟨"UpdateRobot", "goal", "(I)I"⟩ ∈ ub_T := List.mem_filter.mpr ⟨List.mem_of_getElem? (i := 225) (by decide +kernel), rfl⟩
set_option maxRecDepth 100000 in
theorem ubw_226 : Cond.code ⟨"UpdateRobot", "goal", "(I)I"⟩ prog_1_method_8_code 2 (some .int) ∈ ub_T := List.mem_filter.mpr ⟨List.mem_of_getElem? (i := 226) rfl, rfl⟩
set_option maxRecDepth 100000 in
theorem ubw_227 : Cond.methodLink "UpdateRobot" 90 ⟨"UpdateRobot$Names", "goalOf", "(I)I"⟩ ∈ ub_T := List.mem_filter.mpr ⟨List.mem_of_getElem? (i := 227) (by decide +kernel), rfl⟩
set_option maxRecDepth 100000 in
theorem ubw_228 : Cond.instanceMethod ⟨"UpdateRobot$Names", "goalOf", "(I)I"⟩ ∈ ub_T := List.mem_filter.mpr ⟨List.mem_of_getElem? (i := 228) (by decide +kernel), rfl⟩
set_option maxRecDepth 100000 in
theorem ubw_229 : Cond.selects "UpdateRobot$Names" ⟨"UpdateRobot$Names", "goalOf", "(I)I"⟩ ⟨"UpdateRobot$Names", "goalOf", "(I)I"⟩ ∈ ub_T := List.mem_filter.mpr ⟨List.mem_of_getElem? (i := 229) (by decide +kernel), rfl⟩
set_option maxRecDepth 100000 in
theorem ubw_230 : Cond.code ⟨"UpdateRobot$Names", "goalOf", "(I)I"⟩ prog_2_method_7_code 4 (some .int) ∈ ub_T := List.mem_filter.mpr ⟨List.mem_of_getElem? (i := 230) rfl, rfl⟩
set_option maxRecDepth 100000 in
theorem ubw_231 : Cond.methodLink "UpdateRobot$Names" 55 ⟨"UpdateRobot$Names", "farthestAllowed", "(I)I"⟩ ∈ ub_T := List.mem_filter.mpr ⟨List.mem_of_getElem? (i := 231) (by decide +kernel), rfl⟩
set_option maxRecDepth 100000 in
theorem ubw_232 : Cond.instanceMethod ⟨"UpdateRobot$Names", "farthestAllowed", "(I)I"⟩ ∈ ub_T := List.mem_filter.mpr ⟨List.mem_of_getElem? (i := 232) (by decide +kernel), rfl⟩
set_option maxRecDepth 100000 in
theorem ubw_233 : Cond.selects "UpdateRobot$Names" ⟨"UpdateRobot$Names", "farthestAllowed", "(I)I"⟩ ⟨"UpdateRobot$Names", "farthestAllowed", "(I)I"⟩ ∈ ub_T := List.mem_filter.mpr ⟨List.mem_of_getElem? (i := 233) (by decide +kernel), rfl⟩
set_option maxRecDepth 100000 in
theorem ubw_234 : Cond.code ⟨"UpdateRobot$Names", "farthestAllowed", "(I)I"⟩ prog_2_method_8_code 4 (some .int) ∈ ub_T := List.mem_filter.mpr ⟨List.mem_of_getElem? (i := 234) rfl, rfl⟩
set_option maxRecDepth 100000 in
theorem ubw_235 : Cond.methodLink "UpdateRobot$Names" 59 ⟨"UpdateRobot$Names", "isHit", "(I)Z"⟩ ∈ ub_T := List.mem_filter.mpr ⟨List.mem_of_getElem? (i := 235) (by decide +kernel), rfl⟩
set_option maxRecDepth 100000 in
theorem ubw_236 : Cond.instanceMethod ⟨"UpdateRobot$Names", "isHit", "(I)Z"⟩ ∈ ub_T := List.mem_filter.mpr ⟨List.mem_of_getElem? (i := 236) (by decide +kernel), rfl⟩
set_option maxRecDepth 100000 in
theorem ubw_237 : Cond.selects "UpdateRobot$Names" ⟨"UpdateRobot$Names", "isHit", "(I)Z"⟩ ⟨"UpdateRobot$Names", "isHit", "(I)Z"⟩ ∈ ub_T := List.mem_filter.mpr ⟨List.mem_of_getElem? (i := 237) (by decide +kernel), rfl⟩
set_option maxRecDepth 100000 in
theorem ubw_238 : Cond.code ⟨"UpdateRobot$Names", "isHit", "(I)Z"⟩ prog_2_method_6_code 2 (some .boolean) ∈ ub_T := List.mem_filter.mpr ⟨List.mem_of_getElem? (i := 238) rfl, rfl⟩
set_option maxRecDepth 100000 in
theorem ubw_239 : Cond.methodLink "UpdateRobotLaw" 53 ⟨"UpdateRobot", "chief", "(I)I"⟩ ∈ ub_T := List.mem_filter.mpr ⟨List.mem_of_getElem? (i := 239) (by decide +kernel), rfl⟩
set_option maxRecDepth 100000 in
theorem ubw_240 : Cond.instanceMethod ⟨"UpdateRobot", "chief", "(I)I"⟩ ∈ ub_T := List.mem_filter.mpr ⟨List.mem_of_getElem? (i := 240) (by decide +kernel), rfl⟩
set_option maxRecDepth 100000 in
theorem ubw_241 : Cond.selects "UpdateRobot" ⟨"UpdateRobot", "chief", "(I)I"⟩ ⟨"UpdateRobot", "chief", "(I)I"⟩ ∈ ub_T := List.mem_filter.mpr ⟨List.mem_of_getElem? (i := 241) (by decide +kernel), rfl⟩
set_option maxRecDepth 100000 in
theorem ubw_242 : Cond.code ⟨"UpdateRobot", "chief", "(I)I"⟩ prog_1_method_9_code 2 (some .int) ∈ ub_T := List.mem_filter.mpr ⟨List.mem_of_getElem? (i := 242) rfl, rfl⟩
set_option maxRecDepth 100000 in
theorem ubw_243 : Cond.methodLink "UpdateRobot" 93 ⟨"UpdateRobot$Names", "chiefOf", "(I)I"⟩ ∈ ub_T := List.mem_filter.mpr ⟨List.mem_of_getElem? (i := 243) (by decide +kernel), rfl⟩
set_option maxRecDepth 100000 in
theorem ubw_244 : Cond.instanceMethod ⟨"UpdateRobot$Names", "chiefOf", "(I)I"⟩ ∈ ub_T := List.mem_filter.mpr ⟨List.mem_of_getElem? (i := 244) (by decide +kernel), rfl⟩
set_option maxRecDepth 100000 in
theorem ubw_245 : Cond.selects "UpdateRobot$Names" ⟨"UpdateRobot$Names", "chiefOf", "(I)I"⟩ ⟨"UpdateRobot$Names", "chiefOf", "(I)I"⟩ ∈ ub_T := List.mem_filter.mpr ⟨List.mem_of_getElem? (i := 245) (by decide +kernel), rfl⟩
set_option maxRecDepth 100000 in
theorem ubw_246 : Cond.code ⟨"UpdateRobot$Names", "chiefOf", "(I)I"⟩ prog_2_method_9_code 3 (some .int) ∈ ub_T := List.mem_filter.mpr ⟨List.mem_of_getElem? (i := 246) rfl, rfl⟩
set_option maxRecDepth 100000 in
theorem ubw_247 : Cond.methodLink "UpdateRobotLaw" 57 ⟨"UpdateRobot", "solve", "(I)I"⟩ ∈ ub_T := List.mem_filter.mpr ⟨List.mem_of_getElem? (i := 247) (by decide +kernel), rfl⟩
set_option maxRecDepth 100000 in
theorem ubw_248 : Cond.instanceMethod ⟨"UpdateRobot", "solve", "(I)I"⟩ ∈ ub_T := List.mem_filter.mpr ⟨List.mem_of_getElem? (i := 248) (by decide +kernel), rfl⟩
set_option maxRecDepth 100000 in
theorem ubw_249 : Cond.selects "UpdateRobot" ⟨"UpdateRobot", "solve", "(I)I"⟩ ⟨"UpdateRobot", "solve", "(I)I"⟩ ∈ ub_T := List.mem_filter.mpr ⟨List.mem_of_getElem? (i := 249) (by decide +kernel), rfl⟩
set_option maxRecDepth 100000 in
theorem ubw_250 : Cond.code ⟨"UpdateRobot", "solve", "(I)I"⟩ prog_1_method_10_code 2 (some .int) ∈ ub_T := List.mem_filter.mpr ⟨List.mem_of_getElem? (i := 250) rfl, rfl⟩
set_option maxRecDepth 100000 in
theorem ubw_251 : Cond.methodLink "UpdateRobot" 96 ⟨"UpdateRobot$Names", "isChief", "(I)Z"⟩ ∈ ub_T := List.mem_filter.mpr ⟨List.mem_of_getElem? (i := 251) (by decide +kernel), rfl⟩
set_option maxRecDepth 100000 in
theorem ubw_252 : Cond.instanceMethod ⟨"UpdateRobot$Names", "isChief", "(I)Z"⟩ ∈ ub_T := List.mem_filter.mpr ⟨List.mem_of_getElem? (i := 252) (by decide +kernel), rfl⟩
set_option maxRecDepth 100000 in
theorem ubw_253 : Cond.selects "UpdateRobot$Names" ⟨"UpdateRobot$Names", "isChief", "(I)Z"⟩ ⟨"UpdateRobot$Names", "isChief", "(I)Z"⟩ ∈ ub_T := List.mem_filter.mpr ⟨List.mem_of_getElem? (i := 253) (by decide +kernel), rfl⟩
set_option maxRecDepth 100000 in
theorem ubw_254 : Cond.code ⟨"UpdateRobot$Names", "isChief", "(I)Z"⟩ prog_2_method_10_code 2 (some .boolean) ∈ ub_T := List.mem_filter.mpr ⟨List.mem_of_getElem? (i := 254) rfl, rfl⟩
set_option maxRecDepth 100000 in
theorem ubw_255 : Cond.methodLink "UpdateRobot$Names" 62 ⟨"UpdateRobot$Names", "chiefOf", "(I)I"⟩ ∈ ub_T := List.mem_filter.mpr ⟨List.mem_of_getElem? (i := 255) (by decide +kernel), rfl⟩
set_option maxRecDepth 100000 in
theorem ubw_256 : Cond.methodLink "UpdateRobot" 99 ⟨"UpdateRobot$Solver", "solveUnit", "(LUpdateRobot$Names;I)I"⟩ ∈ ub_T := List.mem_filter.mpr ⟨List.mem_of_getElem? (i := 256) (by decide +kernel), rfl⟩
set_option maxRecDepth 100000 in
theorem ubw_257 : Cond.instanceMethod ⟨"UpdateRobot$Solver", "solveUnit", "(LUpdateRobot$Names;I)I"⟩ ∈ ub_T := List.mem_filter.mpr ⟨List.mem_of_getElem? (i := 257) (by decide +kernel), rfl⟩
set_option maxRecDepth 100000 in
theorem ubw_258 : Cond.selects "UpdateRobot$Solver" ⟨"UpdateRobot$Solver", "solveUnit", "(LUpdateRobot$Names;I)I"⟩ ⟨"UpdateRobot$Solver", "solveUnit", "(LUpdateRobot$Names;I)I"⟩ ∈ ub_T := List.mem_filter.mpr ⟨List.mem_of_getElem? (i := 258) (by decide +kernel), rfl⟩
set_option maxRecDepth 100000 in
theorem ubw_259 : Cond.code ⟨"UpdateRobot$Solver", "solveUnit", "(LUpdateRobot$Names;I)I"⟩ prog_4_method_2_code 7 (some .int) ∈ ub_T := List.mem_filter.mpr ⟨List.mem_of_getElem? (i := 259) rfl, rfl⟩
set_option maxRecDepth 100000 in
theorem ubw_260 : Cond.methodLink "UpdateRobot$Solver" 18 ⟨"UpdateRobot$Solver", "setOut", "(LUpdateRobot$Names;I)V"⟩ ∈ ub_T := List.mem_filter.mpr ⟨List.mem_of_getElem? (i := 260) (by decide +kernel), rfl⟩
set_option maxRecDepth 100000 in
theorem ubw_262 : Cond.instanceMethod ⟨"UpdateRobot$Solver", "setOut", "(LUpdateRobot$Names;I)V"⟩ ∈ ub_T := List.mem_filter.mpr ⟨List.mem_of_getElem? (i := 262) (by decide +kernel), rfl⟩
set_option maxRecDepth 100000 in
theorem ubw_263 : Cond.code ⟨"UpdateRobot$Solver", "setOut", "(LUpdateRobot$Names;I)V"⟩ prog_4_method_3_code 4 none ∈ ub_T := List.mem_filter.mpr ⟨List.mem_of_getElem? (i := 263) rfl, rfl⟩
set_option maxRecDepth 100000 in
theorem ubw_264 : Cond.methodLink "UpdateRobot$Solver" 46 ⟨"UpdateRobot$Names", "chiefOf", "(I)I"⟩ ∈ ub_T := List.mem_filter.mpr ⟨List.mem_of_getElem? (i := 264) (by decide +kernel), rfl⟩
set_option maxRecDepth 100000 in
theorem ubw_265 : Cond.methodLink "UpdateRobot$Solver" 49 ⟨"UpdateRobot$Names", "goalOf", "(I)I"⟩ ∈ ub_T := List.mem_filter.mpr ⟨List.mem_of_getElem? (i := 265) (by decide +kernel), rfl⟩
set_option maxRecDepth 100000 in
theorem ubw_266 : Cond.methodLink "UpdateRobot$Solver" 22 ⟨"UpdateRobot$Solver", "firstNeedy", "(LUpdateRobot$Names;)I"⟩ ∈ ub_T := List.mem_filter.mpr ⟨List.mem_of_getElem? (i := 266) (by decide +kernel), rfl⟩
set_option maxRecDepth 100000 in
theorem ubw_268 : Cond.instanceMethod ⟨"UpdateRobot$Solver", "firstNeedy", "(LUpdateRobot$Names;)I"⟩ ∈ ub_T := List.mem_filter.mpr ⟨List.mem_of_getElem? (i := 268) (by decide +kernel), rfl⟩
set_option maxRecDepth 100000 in
theorem ubw_269 : Cond.code ⟨"UpdateRobot$Solver", "firstNeedy", "(LUpdateRobot$Names;)I"⟩ prog_4_method_4_code 3 (some .int) ∈ ub_T := List.mem_filter.mpr ⟨List.mem_of_getElem? (i := 269) rfl, rfl⟩
set_option maxRecDepth 100000 in
theorem ubw_270 : Cond.methodLink "UpdateRobot$Solver" 55 ⟨"UpdateRobot$Solver", "lacksAtTarget", "(LUpdateRobot$Names;I)Z"⟩ ∈ ub_T := List.mem_filter.mpr ⟨List.mem_of_getElem? (i := 270) (by decide +kernel), rfl⟩
set_option maxRecDepth 100000 in
theorem ubw_272 : Cond.instanceMethod ⟨"UpdateRobot$Solver", "lacksAtTarget", "(LUpdateRobot$Names;I)Z"⟩ ∈ ub_T := List.mem_filter.mpr ⟨List.mem_of_getElem? (i := 272) (by decide +kernel), rfl⟩
set_option maxRecDepth 100000 in
theorem ubw_273 : Cond.code ⟨"UpdateRobot$Solver", "lacksAtTarget", "(LUpdateRobot$Names;I)Z"⟩ prog_4_method_5_code 5 (some .boolean) ∈ ub_T := List.mem_filter.mpr ⟨List.mem_of_getElem? (i := 273) rfl, rfl⟩
set_option maxRecDepth 100000 in
theorem ubw_274 : Cond.methodLink "UpdateRobot$Solver" 59 ⟨"UpdateRobot$Names", "isKnown", "(I)Z"⟩ ∈ ub_T := List.mem_filter.mpr ⟨List.mem_of_getElem? (i := 274) (by decide +kernel), rfl⟩
set_option maxRecDepth 100000 in
theorem ubw_275 : Cond.methodLink "UpdateRobot$Solver" 35 ⟨"UpdateRobot$Names", "farthestAllowed", "(I)I"⟩ ∈ ub_T := List.mem_filter.mpr ⟨List.mem_of_getElem? (i := 275) (by decide +kernel), rfl⟩
set_option maxRecDepth 100000 in
theorem ubw_276 : Cond.methodLink "UpdateRobot$Solver" 39 ⟨"UpdateRobot$Solver", "keepRaised", "(LUpdateRobot$Names;)I"⟩ ∈ ub_T := List.mem_filter.mpr ⟨List.mem_of_getElem? (i := 276) (by decide +kernel), rfl⟩
set_option maxRecDepth 100000 in
theorem ubw_278 : Cond.instanceMethod ⟨"UpdateRobot$Solver", "keepRaised", "(LUpdateRobot$Names;)I"⟩ ∈ ub_T := List.mem_filter.mpr ⟨List.mem_of_getElem? (i := 278) (by decide +kernel), rfl⟩
set_option maxRecDepth 100000 in
theorem ubw_279 : Cond.code ⟨"UpdateRobot$Solver", "keepRaised", "(LUpdateRobot$Names;)I"⟩ prog_4_method_6_code 4 (some .int) ∈ ub_T := List.mem_filter.mpr ⟨List.mem_of_getElem? (i := 279) rfl, rfl⟩
set_option maxRecDepth 100000 in
theorem ubw_280 : Cond.methodLink "UpdateRobotLaw" 61 ⟨"UpdateRobot", "tick", "(I)I"⟩ ∈ ub_T := List.mem_filter.mpr ⟨List.mem_of_getElem? (i := 280) (by decide +kernel), rfl⟩
set_option maxRecDepth 100000 in
theorem ubw_281 : Cond.instanceMethod ⟨"UpdateRobot", "tick", "(I)I"⟩ ∈ ub_T := List.mem_filter.mpr ⟨List.mem_of_getElem? (i := 281) (by decide +kernel), rfl⟩
set_option maxRecDepth 100000 in
theorem ubw_282 : Cond.selects "UpdateRobot" ⟨"UpdateRobot", "tick", "(I)I"⟩ ⟨"UpdateRobot", "tick", "(I)I"⟩ ∈ ub_T := List.mem_filter.mpr ⟨List.mem_of_getElem? (i := 282) (by decide +kernel), rfl⟩
set_option maxRecDepth 100000 in
theorem ubw_283 : Cond.code ⟨"UpdateRobot", "tick", "(I)I"⟩ prog_1_method_11_code 2 (some .int) ∈ ub_T := List.mem_filter.mpr ⟨List.mem_of_getElem? (i := 283) rfl, rfl⟩
set_option maxRecDepth 100000 in
theorem ubw_284 : Cond.constant "UpdateRobot" 103 (100000 : Int32) ∈ ub_T := List.mem_filter.mpr ⟨List.mem_of_getElem? (i := 284) (by decide +kernel), rfl⟩
set_option maxRecDepth 100000 in
theorem ubw_285 : Cond.constant "UpdateRobot" 104 (1000000000 : Int32) ∈ ub_T := List.mem_filter.mpr ⟨List.mem_of_getElem? (i := 285) (by decide +kernel), rfl⟩
set_option maxRecDepth 100000 in
theorem ubw_286 : Cond.methodLink "UpdateRobotLaw" 65 ⟨"UpdateRobot", "run", "()I"⟩ ∈ ub_T := List.mem_filter.mpr ⟨List.mem_of_getElem? (i := 286) (by decide +kernel), rfl⟩
set_option maxRecDepth 100000 in
theorem ubw_287 : Cond.instanceMethod ⟨"UpdateRobot", "run", "()I"⟩ ∈ ub_T := List.mem_filter.mpr ⟨List.mem_of_getElem? (i := 287) (by decide +kernel), rfl⟩
set_option maxRecDepth 100000 in
theorem ubw_288 : Cond.selects "UpdateRobot" ⟨"UpdateRobot", "run", "()I"⟩ ⟨"UpdateRobot", "run", "()I"⟩ ∈ ub_T := List.mem_filter.mpr ⟨List.mem_of_getElem? (i := 288) (by decide +kernel), rfl⟩
set_option maxRecDepth 100000 in
theorem ubw_289 : Cond.code ⟨"UpdateRobot", "run", "()I"⟩ prog_1_method_12_code 3 (some .int) ∈ ub_T := List.mem_filter.mpr ⟨List.mem_of_getElem? (i := 289) rfl, rfl⟩
set_option maxRecDepth 100000 in
theorem ubw_290 : Cond.methodLink "UpdateRobot" 109 ⟨"UpdateRobot", "isDue", "(I)Z"⟩ ∈ ub_T := List.mem_filter.mpr ⟨List.mem_of_getElem? (i := 290) (by decide +kernel), rfl⟩
set_option maxRecDepth 100000 in
theorem ubw_292 : Cond.instanceMethod ⟨"UpdateRobot", "isDue", "(I)Z"⟩ ∈ ub_T := List.mem_filter.mpr ⟨List.mem_of_getElem? (i := 292) (by decide +kernel), rfl⟩
set_option maxRecDepth 100000 in
theorem ubw_293 : Cond.code ⟨"UpdateRobot", "isDue", "(I)Z"⟩ prog_1_method_19_code 3 (some .boolean) ∈ ub_T := List.mem_filter.mpr ⟨List.mem_of_getElem? (i := 293) rfl, rfl⟩
set_option maxRecDepth 100000 in
theorem ubw_294 : Cond.methodLink "UpdateRobot" 152 ⟨"UpdateRobot$Names", "isUnitHit", "(I)Z"⟩ ∈ ub_T := List.mem_filter.mpr ⟨List.mem_of_getElem? (i := 294) (by decide +kernel), rfl⟩
set_option maxRecDepth 100000 in
theorem ubw_295 : Cond.instanceMethod ⟨"UpdateRobot$Names", "isUnitHit", "(I)Z"⟩ ∈ ub_T := List.mem_filter.mpr ⟨List.mem_of_getElem? (i := 295) (by decide +kernel), rfl⟩
set_option maxRecDepth 100000 in
theorem ubw_296 : Cond.selects "UpdateRobot$Names" ⟨"UpdateRobot$Names", "isUnitHit", "(I)Z"⟩ ⟨"UpdateRobot$Names", "isUnitHit", "(I)Z"⟩ ∈ ub_T := List.mem_filter.mpr ⟨List.mem_of_getElem? (i := 296) (by decide +kernel), rfl⟩
set_option maxRecDepth 100000 in
theorem ubw_297 : Cond.code ⟨"UpdateRobot$Names", "isUnitHit", "(I)Z"⟩ prog_2_method_11_code 3 (some .boolean) ∈ ub_T := List.mem_filter.mpr ⟨List.mem_of_getElem? (i := 297) rfl, rfl⟩
set_option maxRecDepth 100000 in
theorem ubw_298 : Cond.methodLink "UpdateRobot" 155 ⟨"UpdateRobot$Names", "leastEvery", "(I)I"⟩ ∈ ub_T := List.mem_filter.mpr ⟨List.mem_of_getElem? (i := 298) (by decide +kernel), rfl⟩
set_option maxRecDepth 100000 in
theorem ubw_299 : Cond.instanceMethod ⟨"UpdateRobot$Names", "leastEvery", "(I)I"⟩ ∈ ub_T := List.mem_filter.mpr ⟨List.mem_of_getElem? (i := 299) (by decide +kernel), rfl⟩
set_option maxRecDepth 100000 in
theorem ubw_300 : Cond.selects "UpdateRobot$Names" ⟨"UpdateRobot$Names", "leastEvery", "(I)I"⟩ ⟨"UpdateRobot$Names", "leastEvery", "(I)I"⟩ ∈ ub_T := List.mem_filter.mpr ⟨List.mem_of_getElem? (i := 300) (by decide +kernel), rfl⟩
set_option maxRecDepth 100000 in
theorem ubw_301 : Cond.code ⟨"UpdateRobot$Names", "leastEvery", "(I)I"⟩ prog_2_method_12_code 4 (some .int) ∈ ub_T := List.mem_filter.mpr ⟨List.mem_of_getElem? (i := 301) rfl, rfl⟩
set_option maxRecDepth 100000 in
theorem ubw_302 : Cond.methodLink "UpdateRobot$Names" 65 ⟨"java/lang/Math", "min", "(II)I"⟩ ∈ ub_T := List.mem_filter.mpr ⟨List.mem_of_getElem? (i := 302) (by decide +kernel), rfl⟩
set_option maxRecDepth 100000 in
theorem ubw_303 : Cond.methodLink "UpdateRobot" 115 ⟨"UpdateRobot", "review", "(I)V"⟩ ∈ ub_T := List.mem_filter.mpr ⟨List.mem_of_getElem? (i := 303) (by decide +kernel), rfl⟩
set_option maxRecDepth 100000 in
theorem ubw_305 : Cond.instanceMethod ⟨"UpdateRobot", "review", "(I)V"⟩ ∈ ub_T := List.mem_filter.mpr ⟨List.mem_of_getElem? (i := 305) (by decide +kernel), rfl⟩
set_option maxRecDepth 100000 in
theorem ubw_306 : Cond.code ⟨"UpdateRobot", "review", "(I)V"⟩ prog_1_method_20_code 3 none ∈ ub_T := List.mem_filter.mpr ⟨List.mem_of_getElem? (i := 306) rfl, rfl⟩
set_option maxRecDepth 100000 in
theorem ubw_307 : Cond.methodLink "UpdateRobot" 158 ⟨"UpdateRobot$Proposals", "openOf", "(I)I"⟩ ∈ ub_T := List.mem_filter.mpr ⟨List.mem_of_getElem? (i := 307) (by decide +kernel), rfl⟩
set_option maxRecDepth 100000 in
theorem ubw_308 : Cond.instanceMethod ⟨"UpdateRobot$Proposals", "openOf", "(I)I"⟩ ∈ ub_T := List.mem_filter.mpr ⟨List.mem_of_getElem? (i := 308) (by decide +kernel), rfl⟩
set_option maxRecDepth 100000 in
theorem ubw_309 : Cond.selects "UpdateRobot$Proposals" ⟨"UpdateRobot$Proposals", "openOf", "(I)I"⟩ ⟨"UpdateRobot$Proposals", "openOf", "(I)I"⟩ ∈ ub_T := List.mem_filter.mpr ⟨List.mem_of_getElem? (i := 309) (by decide +kernel), rfl⟩
set_option maxRecDepth 100000 in
theorem ubw_310 : Cond.code ⟨"UpdateRobot$Proposals", "openOf", "(I)I"⟩ prog_3_method_8_code 2 (some .int) ∈ ub_T := List.mem_filter.mpr ⟨List.mem_of_getElem? (i := 310) rfl, rfl⟩
set_option maxRecDepth 100000 in
theorem ubw_311 : Cond.methodLink "UpdateRobot$Proposals" 49 ⟨"UpdateRobot$Proposals", "latestOf", "(II)I"⟩ ∈ ub_T := List.mem_filter.mpr ⟨List.mem_of_getElem? (i := 311) (by decide +kernel), rfl⟩
set_option maxRecDepth 100000 in
theorem ubw_313 : Cond.instanceMethod ⟨"UpdateRobot$Proposals", "latestOf", "(II)I"⟩ ∈ ub_T := List.mem_filter.mpr ⟨List.mem_of_getElem? (i := 313) (by decide +kernel), rfl⟩
set_option maxRecDepth 100000 in
theorem ubw_314 : Cond.code ⟨"UpdateRobot$Proposals", "latestOf", "(II)I"⟩ prog_3_method_10_code 4 (some .int) ∈ ub_T := List.mem_filter.mpr ⟨List.mem_of_getElem? (i := 314) rfl, rfl⟩
set_option maxRecDepth 100000 in
theorem ubw_315 : Cond.methodLink "UpdateRobot" 161 ⟨"UpdateRobot$Proposals", "closeIfAny", "(II)V"⟩ ∈ ub_T := List.mem_filter.mpr ⟨List.mem_of_getElem? (i := 315) (by decide +kernel), rfl⟩
set_option maxRecDepth 100000 in
theorem ubw_316 : Cond.instanceMethod ⟨"UpdateRobot$Proposals", "closeIfAny", "(II)V"⟩ ∈ ub_T := List.mem_filter.mpr ⟨List.mem_of_getElem? (i := 316) (by decide +kernel), rfl⟩
set_option maxRecDepth 100000 in
theorem ubw_317 : Cond.selects "UpdateRobot$Proposals" ⟨"UpdateRobot$Proposals", "closeIfAny", "(II)V"⟩ ⟨"UpdateRobot$Proposals", "closeIfAny", "(II)V"⟩ ∈ ub_T := List.mem_filter.mpr ⟨List.mem_of_getElem? (i := 317) (by decide +kernel), rfl⟩
set_option maxRecDepth 100000 in
theorem ubw_318 : Cond.code ⟨"UpdateRobot$Proposals", "closeIfAny", "(II)V"⟩ prog_3_method_7_code 3 none ∈ ub_T := List.mem_filter.mpr ⟨List.mem_of_getElem? (i := 318) rfl, rfl⟩
set_option maxRecDepth 100000 in
theorem ubw_319 : Cond.methodLink "UpdateRobot$Proposals" 37 ⟨"UpdateRobot$Proposals", "isKnown", "(I)Z"⟩ ∈ ub_T := List.mem_filter.mpr ⟨List.mem_of_getElem? (i := 319) (by decide +kernel), rfl⟩
set_option maxRecDepth 100000 in
theorem ubw_320 : Cond.instanceMethod ⟨"UpdateRobot$Proposals", "isKnown", "(I)Z"⟩ ∈ ub_T := List.mem_filter.mpr ⟨List.mem_of_getElem? (i := 320) (by decide +kernel), rfl⟩
set_option maxRecDepth 100000 in
theorem ubw_321 : Cond.selects "UpdateRobot$Proposals" ⟨"UpdateRobot$Proposals", "isKnown", "(I)Z"⟩ ⟨"UpdateRobot$Proposals", "isKnown", "(I)Z"⟩ ∈ ub_T := List.mem_filter.mpr ⟨List.mem_of_getElem? (i := 321) (by decide +kernel), rfl⟩
set_option maxRecDepth 100000 in
theorem ubw_322 : Cond.code ⟨"UpdateRobot$Proposals", "isKnown", "(I)Z"⟩ prog_3_method_2_code 2 (some .boolean) ∈ ub_T := List.mem_filter.mpr ⟨List.mem_of_getElem? (i := 322) rfl, rfl⟩
set_option maxRecDepth 100000 in
theorem ubw_323 : Cond.methodLink "UpdateRobot" 167 ⟨"UpdateRobot$Proposals", "raisesJust", "(I[I)Z"⟩ ∈ ub_T := List.mem_filter.mpr ⟨List.mem_of_getElem? (i := 323) (by decide +kernel), rfl⟩
set_option maxRecDepth 100000 in
theorem ubw_324 : Cond.instanceMethod ⟨"UpdateRobot$Proposals", "raisesJust", "(I[I)Z"⟩ ∈ ub_T := List.mem_filter.mpr ⟨List.mem_of_getElem? (i := 324) (by decide +kernel), rfl⟩
set_option maxRecDepth 100000 in
theorem ubw_325 : Cond.selects "UpdateRobot$Proposals" ⟨"UpdateRobot$Proposals", "raisesJust", "(I[I)Z"⟩ ⟨"UpdateRobot$Proposals", "raisesJust", "(I[I)Z"⟩ ∈ ub_T := List.mem_filter.mpr ⟨List.mem_of_getElem? (i := 325) (by decide +kernel), rfl⟩
set_option maxRecDepth 100000 in
theorem ubw_326 : Cond.code ⟨"UpdateRobot$Proposals", "raisesJust", "(I[I)Z"⟩ prog_3_method_11_code 4 (some .boolean) ∈ ub_T := List.mem_filter.mpr ⟨List.mem_of_getElem? (i := 326) rfl, rfl⟩
set_option maxRecDepth 100000 in
theorem ubw_327 : Cond.methodLink "UpdateRobot" 171 ⟨"UpdateRobot$Proposals", "latestFailedOf", "(I)I"⟩ ∈ ub_T := List.mem_filter.mpr ⟨List.mem_of_getElem? (i := 327) (by decide +kernel), rfl⟩
set_option maxRecDepth 100000 in
theorem ubw_328 : Cond.instanceMethod ⟨"UpdateRobot$Proposals", "latestFailedOf", "(I)I"⟩ ∈ ub_T := List.mem_filter.mpr ⟨List.mem_of_getElem? (i := 328) (by decide +kernel), rfl⟩
set_option maxRecDepth 100000 in
theorem ubw_329 : Cond.selects "UpdateRobot$Proposals" ⟨"UpdateRobot$Proposals", "latestFailedOf", "(I)I"⟩ ⟨"UpdateRobot$Proposals", "latestFailedOf", "(I)I"⟩ ∈ ub_T := List.mem_filter.mpr ⟨List.mem_of_getElem? (i := 329) (by decide +kernel), rfl⟩
set_option maxRecDepth 100000 in
theorem ubw_330 : Cond.code ⟨"UpdateRobot$Proposals", "latestFailedOf", "(I)I"⟩ prog_3_method_9_code 2 (some .int) ∈ ub_T := List.mem_filter.mpr ⟨List.mem_of_getElem? (i := 330) rfl, rfl⟩
set_option maxRecDepth 100000 in
theorem ubw_331 : Cond.methodLink "UpdateRobot" 174 ⟨"UpdateRobot", "mayOpen", "(II)Z"⟩ ∈ ub_T := List.mem_filter.mpr ⟨List.mem_of_getElem? (i := 331) (by decide +kernel), rfl⟩
set_option maxRecDepth 100000 in
theorem ubw_333 : Cond.instanceMethod ⟨"UpdateRobot", "mayOpen", "(II)Z"⟩ ∈ ub_T := List.mem_filter.mpr ⟨List.mem_of_getElem? (i := 333) (by decide +kernel), rfl⟩
set_option maxRecDepth 100000 in
theorem ubw_334 : Cond.code ⟨"UpdateRobot", "mayOpen", "(II)Z"⟩ prog_1_method_21_code 3 (some .boolean) ∈ ub_T := List.mem_filter.mpr ⟨List.mem_of_getElem? (i := 334) rfl, rfl⟩
set_option maxRecDepth 100000 in
theorem ubw_335 : Cond.methodLink "UpdateRobot" 180 ⟨"UpdateRobot$Proposals", "isFull", "()Z"⟩ ∈ ub_T := List.mem_filter.mpr ⟨List.mem_of_getElem? (i := 335) (by decide +kernel), rfl⟩
set_option maxRecDepth 100000 in
theorem ubw_336 : Cond.instanceMethod ⟨"UpdateRobot$Proposals", "isFull", "()Z"⟩ ∈ ub_T := List.mem_filter.mpr ⟨List.mem_of_getElem? (i := 336) (by decide +kernel), rfl⟩
set_option maxRecDepth 100000 in
theorem ubw_337 : Cond.selects "UpdateRobot$Proposals" ⟨"UpdateRobot$Proposals", "isFull", "()Z"⟩ ⟨"UpdateRobot$Proposals", "isFull", "()Z"⟩ ∈ ub_T := List.mem_filter.mpr ⟨List.mem_of_getElem? (i := 337) (by decide +kernel), rfl⟩
set_option maxRecDepth 100000 in
theorem ubw_338 : Cond.code ⟨"UpdateRobot$Proposals", "isFull", "()Z"⟩ prog_3_method_4_code 1 (some .boolean) ∈ ub_T := List.mem_filter.mpr ⟨List.mem_of_getElem? (i := 338) rfl, rfl⟩
set_option maxRecDepth 100000 in
theorem ubw_339 : Cond.methodLink "UpdateRobot" 149 ⟨"UpdateRobot", "openIn", "(I)I"⟩ ∈ ub_T := List.mem_filter.mpr ⟨List.mem_of_getElem? (i := 339) (by decide +kernel), rfl⟩
set_option maxRecDepth 100000 in
theorem ubw_341 : Cond.instanceMethod ⟨"UpdateRobot", "openIn", "(I)I"⟩ ∈ ub_T := List.mem_filter.mpr ⟨List.mem_of_getElem? (i := 341) (by decide +kernel), rfl⟩
set_option maxRecDepth 100000 in
theorem ubw_342 : Cond.code ⟨"UpdateRobot", "openIn", "(I)I"⟩ prog_1_method_22_code 4 (some .int) ∈ ub_T := List.mem_filter.mpr ⟨List.mem_of_getElem? (i := 342) rfl, rfl⟩
set_option maxRecDepth 100000 in
theorem ubw_343 : Cond.methodLink "UpdateRobot" 139 ⟨"UpdateRobot$Proposals", "isOpen", "(I)Z"⟩ ∈ ub_T := List.mem_filter.mpr ⟨List.mem_of_getElem? (i := 343) (by decide +kernel), rfl⟩
set_option maxRecDepth 100000 in
theorem ubw_344 : Cond.instanceMethod ⟨"UpdateRobot$Proposals", "isOpen", "(I)Z"⟩ ∈ ub_T := List.mem_filter.mpr ⟨List.mem_of_getElem? (i := 344) (by decide +kernel), rfl⟩
set_option maxRecDepth 100000 in
theorem ubw_345 : Cond.selects "UpdateRobot$Proposals" ⟨"UpdateRobot$Proposals", "isOpen", "(I)Z"⟩ ⟨"UpdateRobot$Proposals", "isOpen", "(I)Z"⟩ ∈ ub_T := List.mem_filter.mpr ⟨List.mem_of_getElem? (i := 345) (by decide +kernel), rfl⟩
set_option maxRecDepth 100000 in
theorem ubw_346 : Cond.code ⟨"UpdateRobot$Proposals", "isOpen", "(I)Z"⟩ prog_3_method_3_code 2 (some .boolean) ∈ ub_T := List.mem_filter.mpr ⟨List.mem_of_getElem? (i := 346) rfl, rfl⟩
set_option maxRecDepth 100000 in
theorem ubw_347 : Cond.methodLink "UpdateRobot" 177 ⟨"UpdateRobot$Proposals", "add", "(IIZ[I)V"⟩ ∈ ub_T := List.mem_filter.mpr ⟨List.mem_of_getElem? (i := 347) (by decide +kernel), rfl⟩
set_option maxRecDepth 100000 in
theorem ubw_348 : Cond.instanceMethod ⟨"UpdateRobot$Proposals", "add", "(IIZ[I)V"⟩ ∈ ub_T := List.mem_filter.mpr ⟨List.mem_of_getElem? (i := 348) (by decide +kernel), rfl⟩
set_option maxRecDepth 100000 in
theorem ubw_349 : Cond.selects "UpdateRobot$Proposals" ⟨"UpdateRobot$Proposals", "add", "(IIZ[I)V"⟩ ⟨"UpdateRobot$Proposals", "add", "(IIZ[I)V"⟩ ∈ ub_T := List.mem_filter.mpr ⟨List.mem_of_getElem? (i := 349) (by decide +kernel), rfl⟩
set_option maxRecDepth 100000 in
theorem ubw_350 : Cond.code ⟨"UpdateRobot$Proposals", "add", "(IIZ[I)V"⟩ prog_3_method_5_code 6 none ∈ ub_T := List.mem_filter.mpr ⟨List.mem_of_getElem? (i := 350) rfl, rfl⟩
set_option maxRecDepth 100000 in
theorem ubw_351 : Cond.methodLink "UpdateRobot$Proposals" 41 ⟨"UpdateRobot$Proposals", "isFull", "()Z"⟩ ∈ ub_T := List.mem_filter.mpr ⟨List.mem_of_getElem? (i := 351) (by decide +kernel), rfl⟩
set_option maxRecDepth 100000 in
theorem ubw_352 : Cond.methodLink "UpdateRobot$Proposals" 45 ⟨"UpdateRobot$Proposals", "setRaised", "(I[I)V"⟩ ∈ ub_T := List.mem_filter.mpr ⟨List.mem_of_getElem? (i := 352) (by decide +kernel), rfl⟩
set_option maxRecDepth 100000 in
theorem ubw_353 : Cond.instanceMethod ⟨"UpdateRobot$Proposals", "setRaised", "(I[I)V"⟩ ∈ ub_T := List.mem_filter.mpr ⟨List.mem_of_getElem? (i := 353) (by decide +kernel), rfl⟩
set_option maxRecDepth 100000 in
theorem ubw_354 : Cond.selects "UpdateRobot$Proposals" ⟨"UpdateRobot$Proposals", "setRaised", "(I[I)V"⟩ ⟨"UpdateRobot$Proposals", "setRaised", "(I[I)V"⟩ ∈ ub_T := List.mem_filter.mpr ⟨List.mem_of_getElem? (i := 354) (by decide +kernel), rfl⟩
set_option maxRecDepth 100000 in
theorem ubw_355 : Cond.code ⟨"UpdateRobot$Proposals", "setRaised", "(I[I)V"⟩ prog_3_method_6_code 4 none ∈ ub_T := List.mem_filter.mpr ⟨List.mem_of_getElem? (i := 355) rfl, rfl⟩
set_option maxRecDepth 100000 in
theorem ubw_356 : Cond.methodLink "UpdateRobotLaw" 70 ⟨"UpdateRobot", "waiting", "()I"⟩ ∈ ub_T := List.mem_filter.mpr ⟨List.mem_of_getElem? (i := 356) (by decide +kernel), rfl⟩
set_option maxRecDepth 100000 in
theorem ubw_357 : Cond.instanceMethod ⟨"UpdateRobot", "waiting", "()I"⟩ ∈ ub_T := List.mem_filter.mpr ⟨List.mem_of_getElem? (i := 357) (by decide +kernel), rfl⟩
set_option maxRecDepth 100000 in
theorem ubw_358 : Cond.selects "UpdateRobot" ⟨"UpdateRobot", "waiting", "()I"⟩ ⟨"UpdateRobot", "waiting", "()I"⟩ ∈ ub_T := List.mem_filter.mpr ⟨List.mem_of_getElem? (i := 358) (by decide +kernel), rfl⟩
set_option maxRecDepth 100000 in
theorem ubw_359 : Cond.code ⟨"UpdateRobot", "waiting", "()I"⟩ prog_1_method_13_code 1 (some .int) ∈ ub_T := List.mem_filter.mpr ⟨List.mem_of_getElem? (i := 359) rfl, rfl⟩
set_option maxRecDepth 100000 in
theorem ubw_360 : Cond.methodLink "UpdateRobotLaw" 74 ⟨"UpdateRobot", "about", "(II)I"⟩ ∈ ub_T := List.mem_filter.mpr ⟨List.mem_of_getElem? (i := 360) (by decide +kernel), rfl⟩
set_option maxRecDepth 100000 in
theorem ubw_361 : Cond.instanceMethod ⟨"UpdateRobot", "about", "(II)I"⟩ ∈ ub_T := List.mem_filter.mpr ⟨List.mem_of_getElem? (i := 361) (by decide +kernel), rfl⟩
set_option maxRecDepth 100000 in
theorem ubw_362 : Cond.selects "UpdateRobot" ⟨"UpdateRobot", "about", "(II)I"⟩ ⟨"UpdateRobot", "about", "(II)I"⟩ ∈ ub_T := List.mem_filter.mpr ⟨List.mem_of_getElem? (i := 362) (by decide +kernel), rfl⟩
set_option maxRecDepth 100000 in
theorem ubw_363 : Cond.code ⟨"UpdateRobot", "about", "(II)I"⟩ prog_1_method_14_code 3 (some .int) ∈ ub_T := List.mem_filter.mpr ⟨List.mem_of_getElem? (i := 363) rfl, rfl⟩
set_option maxRecDepth 100000 in
theorem ubw_364 : Cond.methodLink "UpdateRobot" 119 ⟨"UpdateRobot$Proposals", "isKnown", "(I)Z"⟩ ∈ ub_T := List.mem_filter.mpr ⟨List.mem_of_getElem? (i := 364) (by decide +kernel), rfl⟩
set_option maxRecDepth 100000 in
theorem ubw_365 : Cond.methodLink "UpdateRobotLaw" 78 ⟨"UpdateRobot", "target", "(II)I"⟩ ∈ ub_T := List.mem_filter.mpr ⟨List.mem_of_getElem? (i := 365) (by decide +kernel), rfl⟩
set_option maxRecDepth 100000 in
theorem ubw_366 : Cond.instanceMethod ⟨"UpdateRobot", "target", "(II)I"⟩ ∈ ub_T := List.mem_filter.mpr ⟨List.mem_of_getElem? (i := 366) (by decide +kernel), rfl⟩
set_option maxRecDepth 100000 in
theorem ubw_367 : Cond.selects "UpdateRobot" ⟨"UpdateRobot", "target", "(II)I"⟩ ⟨"UpdateRobot", "target", "(II)I"⟩ ∈ ub_T := List.mem_filter.mpr ⟨List.mem_of_getElem? (i := 367) (by decide +kernel), rfl⟩
set_option maxRecDepth 100000 in
theorem ubw_368 : Cond.code ⟨"UpdateRobot", "target", "(II)I"⟩ prog_1_method_15_code 3 (some .int) ∈ ub_T := List.mem_filter.mpr ⟨List.mem_of_getElem? (i := 368) rfl, rfl⟩
set_option maxRecDepth 100000 in
theorem ubw_369 : Cond.methodLink "UpdateRobotLaw" 82 ⟨"UpdateRobot", "pass", "(IZ)I"⟩ ∈ ub_T := List.mem_filter.mpr ⟨List.mem_of_getElem? (i := 369) (by decide +kernel), rfl⟩
set_option maxRecDepth 100000 in
theorem ubw_370 : Cond.instanceMethod ⟨"UpdateRobot", "pass", "(IZ)I"⟩ ∈ ub_T := List.mem_filter.mpr ⟨List.mem_of_getElem? (i := 370) (by decide +kernel), rfl⟩
set_option maxRecDepth 100000 in
theorem ubw_371 : Cond.selects "UpdateRobot" ⟨"UpdateRobot", "pass", "(IZ)I"⟩ ⟨"UpdateRobot", "pass", "(IZ)I"⟩ ∈ ub_T := List.mem_filter.mpr ⟨List.mem_of_getElem? (i := 371) (by decide +kernel), rfl⟩
set_option maxRecDepth 100000 in
theorem ubw_372 : Cond.code ⟨"UpdateRobot", "pass", "(IZ)I"⟩ prog_1_method_16_code 4 (some .int) ∈ ub_T := List.mem_filter.mpr ⟨List.mem_of_getElem? (i := 372) rfl, rfl⟩
set_option maxRecDepth 100000 in
theorem ubw_373 : Cond.methodLink "UpdateRobot" 142 ⟨"UpdateRobot$Names", "moveUp", "([I)I"⟩ ∈ ub_T := List.mem_filter.mpr ⟨List.mem_of_getElem? (i := 373) (by decide +kernel), rfl⟩
set_option maxRecDepth 100000 in
theorem ubw_374 : Cond.instanceMethod ⟨"UpdateRobot$Names", "moveUp", "([I)I"⟩ ∈ ub_T := List.mem_filter.mpr ⟨List.mem_of_getElem? (i := 374) (by decide +kernel), rfl⟩
set_option maxRecDepth 100000 in
theorem ubw_375 : Cond.selects "UpdateRobot$Names" ⟨"UpdateRobot$Names", "moveUp", "([I)I"⟩ ⟨"UpdateRobot$Names", "moveUp", "([I)I"⟩ ∈ ub_T := List.mem_filter.mpr ⟨List.mem_of_getElem? (i := 375) (by decide +kernel), rfl⟩
set_option maxRecDepth 100000 in
theorem ubw_376 : Cond.code ⟨"UpdateRobot$Names", "moveUp", "([I)I"⟩ prog_2_method_13_code 4 (some .int) ∈ ub_T := List.mem_filter.mpr ⟨List.mem_of_getElem? (i := 376) rfl, rfl⟩
set_option maxRecDepth 100000 in
theorem ubw_377 : Cond.methodLink "UpdateRobot" 146 ⟨"UpdateRobot", "redoAllTouchedBy", "(I)V"⟩ ∈ ub_T := List.mem_filter.mpr ⟨List.mem_of_getElem? (i := 377) (by decide +kernel), rfl⟩
set_option maxRecDepth 100000 in
theorem ubw_379 : Cond.instanceMethod ⟨"UpdateRobot", "redoAllTouchedBy", "(I)V"⟩ ∈ ub_T := List.mem_filter.mpr ⟨List.mem_of_getElem? (i := 379) (by decide +kernel), rfl⟩
set_option maxRecDepth 100000 in
theorem ubw_380 : Cond.code ⟨"UpdateRobot", "redoAllTouchedBy", "(I)V"⟩ prog_1_method_23_code 3 none ∈ ub_T := List.mem_filter.mpr ⟨List.mem_of_getElem? (i := 380) rfl, rfl⟩
set_option maxRecDepth 100000 in
theorem ubw_381 : Cond.methodLink "UpdateRobot" 187 ⟨"UpdateRobot$Proposals", "overlap", "(II)Z"⟩ ∈ ub_T := List.mem_filter.mpr ⟨List.mem_of_getElem? (i := 381) (by decide +kernel), rfl⟩
set_option maxRecDepth 100000 in
theorem ubw_382 : Cond.instanceMethod ⟨"UpdateRobot$Proposals", "overlap", "(II)Z"⟩ ∈ ub_T := List.mem_filter.mpr ⟨List.mem_of_getElem? (i := 382) (by decide +kernel), rfl⟩
set_option maxRecDepth 100000 in
theorem ubw_383 : Cond.selects "UpdateRobot$Proposals" ⟨"UpdateRobot$Proposals", "overlap", "(II)Z"⟩ ⟨"UpdateRobot$Proposals", "overlap", "(II)Z"⟩ ∈ ub_T := List.mem_filter.mpr ⟨List.mem_of_getElem? (i := 383) (by decide +kernel), rfl⟩
set_option maxRecDepth 100000 in
theorem ubw_384 : Cond.code ⟨"UpdateRobot$Proposals", "overlap", "(II)Z"⟩ prog_3_method_12_code 4 (some .boolean) ∈ ub_T := List.mem_filter.mpr ⟨List.mem_of_getElem? (i := 384) rfl, rfl⟩
set_option maxRecDepth 100000 in
theorem ubw_385 : Cond.methodLink "UpdateRobot" 190 ⟨"UpdateRobot", "redo", "(I)V"⟩ ∈ ub_T := List.mem_filter.mpr ⟨List.mem_of_getElem? (i := 385) (by decide +kernel), rfl⟩
set_option maxRecDepth 100000 in
theorem ubw_387 : Cond.instanceMethod ⟨"UpdateRobot", "redo", "(I)V"⟩ ∈ ub_T := List.mem_filter.mpr ⟨List.mem_of_getElem? (i := 387) (by decide +kernel), rfl⟩
set_option maxRecDepth 100000 in
theorem ubw_388 : Cond.code ⟨"UpdateRobot", "redo", "(I)V"⟩ prog_1_method_24_code 3 none ∈ ub_T := List.mem_filter.mpr ⟨List.mem_of_getElem? (i := 388) rfl, rfl⟩
set_option maxRecDepth 100000 in
theorem ubw_389 : Cond.methodLink "UpdateRobot" 193 ⟨"UpdateRobot$Proposals", "setRaised", "(I[I)V"⟩ ∈ ub_T := List.mem_filter.mpr ⟨List.mem_of_getElem? (i := 389) (by decide +kernel), rfl⟩
set_option maxRecDepth 100000 in
theorem ubw_390 : Cond.methodLink "UpdateRobotLaw" 87 ⟨"UpdateRobot", "open", "(I)I"⟩ ∈ ub_T := List.mem_filter.mpr ⟨List.mem_of_getElem? (i := 390) (by decide +kernel), rfl⟩
set_option maxRecDepth 100000 in
theorem ubw_391 : Cond.instanceMethod ⟨"UpdateRobot", "open", "(I)I"⟩ ∈ ub_T := List.mem_filter.mpr ⟨List.mem_of_getElem? (i := 391) (by decide +kernel), rfl⟩
set_option maxRecDepth 100000 in
theorem ubw_392 : Cond.selects "UpdateRobot" ⟨"UpdateRobot", "open", "(I)I"⟩ ⟨"UpdateRobot", "open", "(I)I"⟩ ∈ ub_T := List.mem_filter.mpr ⟨List.mem_of_getElem? (i := 392) (by decide +kernel), rfl⟩
set_option maxRecDepth 100000 in
theorem ubw_393 : Cond.code ⟨"UpdateRobot", "open", "(I)I"⟩ prog_1_method_17_code 2 (some .int) ∈ ub_T := List.mem_filter.mpr ⟨List.mem_of_getElem? (i := 393) rfl, rfl⟩
set_option maxRecDepth 100000 in
theorem ubw_394 : Cond.methodLink "UpdateRobotLaw" 9 ⟨"UpdateRobotLaw", "cell", "([II)I"⟩ ∈ ub_T := List.mem_filter.mpr ⟨List.mem_of_getElem? (i := 394) (by decide +kernel), rfl⟩
set_option maxRecDepth 100000 in
theorem ubw_395 : Cond.static ⟨"UpdateRobotLaw", "cell", "([II)I"⟩ ∈ ub_T := List.mem_filter.mpr ⟨List.mem_of_getElem? (i := 395) (by decide +kernel), rfl⟩
set_option maxRecDepth 100000 in
theorem ubw_396 : Cond.code ⟨"UpdateRobotLaw", "cell", "([II)I"⟩ method_2_code 2 (some .int) ∈ ub_T := List.mem_filter.mpr ⟨List.mem_of_getElem? (i := 396) rfl, rfl⟩
set_option maxRecDepth 100000 in
theorem ubw_397 : Cond.classLink "UpdateRobotLaw" 18 "UpdateRobotModel" ∈ ub_T := List.mem_filter.mpr ⟨List.mem_of_getElem? (i := 397) (by decide +kernel), rfl⟩
set_option maxRecDepth 100000 in
theorem ubw_398 : Cond.instantiable "UpdateRobotModel" 25 ∈ ub_T := List.mem_filter.mpr ⟨List.mem_of_getElem? (i := 398) (by decide +kernel), rfl⟩
set_option maxRecDepth 100000 in
theorem ubw_399 : Cond.methodLink "UpdateRobotLaw" 20 ⟨"UpdateRobotModel", "<init>", "(I)V"⟩ ∈ ub_T := List.mem_filter.mpr ⟨List.mem_of_getElem? (i := 399) (by decide +kernel), rfl⟩
set_option maxRecDepth 100000 in
theorem ubw_400 : Cond.instanceMethod ⟨"UpdateRobotModel", "<init>", "(I)V"⟩ ∈ ub_T := List.mem_filter.mpr ⟨List.mem_of_getElem? (i := 400) (by decide +kernel), rfl⟩
set_option maxRecDepth 100000 in
theorem ubw_401 : Cond.code ⟨"UpdateRobotModel", "<init>", "(I)V"⟩ prog_6_method_1_code 2 none ∈ ub_T := List.mem_filter.mpr ⟨List.mem_of_getElem? (i := 401) rfl, rfl⟩
set_option maxRecDepth 100000 in
theorem ubw_402 : Cond.methodLink "UpdateRobotModel" 1 ⟨"java/lang/Object", "<init>", "()V"⟩ ∈ ub_T := List.mem_filter.mpr ⟨List.mem_of_getElem? (i := 402) (by decide +kernel), rfl⟩
set_option maxRecDepth 100000 in
theorem ubw_403 : Cond.fieldLink "UpdateRobotModel" 64 "UpdateRobotModel" "limit" "I" ∈ ub_T := List.mem_filter.mpr ⟨List.mem_of_getElem? (i := 403) (by decide +kernel), rfl⟩
set_option maxRecDepth 100000 in
theorem ubw_404 : Cond.fieldLink "UpdateRobotModel" 68 "UpdateRobotModel" "code" "I" ∈ ub_T := List.mem_filter.mpr ⟨List.mem_of_getElem? (i := 404) (by decide +kernel), rfl⟩
set_option maxRecDepth 100000 in
theorem ubw_405 : Cond.fieldLink "UpdateRobotModel" 106 "UpdateRobotModel" "clock" "I" ∈ ub_T := List.mem_filter.mpr ⟨List.mem_of_getElem? (i := 405) (by decide +kernel), rfl⟩
set_option maxRecDepth 100000 in
theorem ubw_406 : Cond.fieldLink "UpdateRobotModel" 71 "UpdateRobotModel" "names" "I" ∈ ub_T := List.mem_filter.mpr ⟨List.mem_of_getElem? (i := 406) (by decide +kernel), rfl⟩
set_option maxRecDepth 100000 in
theorem ubw_407 : Cond.fieldLink "UpdateRobotModel" 113 "UpdateRobotModel" "proposals" "I" ∈ ub_T := List.mem_filter.mpr ⟨List.mem_of_getElem? (i := 407) (by decide +kernel), rfl⟩
set_option maxRecDepth 100000 in
theorem ubw_408 : Cond.fieldLink "UpdateRobotModel" 133 "UpdateRobotModel" "waited" "I" ∈ ub_T := List.mem_filter.mpr ⟨List.mem_of_getElem? (i := 408) (by decide +kernel), rfl⟩
set_option maxRecDepth 100000 in
theorem ubw_409 : Cond.fieldLink "UpdateRobotModel" 7 "UpdateRobotModel" "repository" "[I" ∈ ub_T := List.mem_filter.mpr ⟨List.mem_of_getElem? (i := 409) (by decide +kernel), rfl⟩
set_option maxRecDepth 100000 in
theorem ubw_410 : Cond.fieldLink "UpdateRobotModel" 13 "UpdateRobotModel" "newest" "[I" ∈ ub_T := List.mem_filter.mpr ⟨List.mem_of_getElem? (i := 410) (by decide +kernel), rfl⟩
set_option maxRecDepth 100000 in
theorem ubw_411 : Cond.fieldLink "UpdateRobotModel" 16 "UpdateRobotModel" "has" "[I" ∈ ub_T := List.mem_filter.mpr ⟨List.mem_of_getElem? (i := 411) (by decide +kernel), rfl⟩
set_option maxRecDepth 100000 in
theorem ubw_412 : Cond.fieldLink "UpdateRobotModel" 19 "UpdateRobotModel" "allowed" "[I" ∈ ub_T := List.mem_filter.mpr ⟨List.mem_of_getElem? (i := 412) (by decide +kernel), rfl⟩
set_option maxRecDepth 100000 in
theorem ubw_413 : Cond.fieldLink "UpdateRobotModel" 22 "UpdateRobotModel" "every" "[I" ∈ ub_T := List.mem_filter.mpr ⟨List.mem_of_getElem? (i := 413) (by decide +kernel), rfl⟩
set_option maxRecDepth 100000 in
theorem ubw_414 : Cond.fieldLink "UpdateRobotModel" 25 "UpdateRobotModel" "group" "[I" ∈ ub_T := List.mem_filter.mpr ⟨List.mem_of_getElem? (i := 414) (by decide +kernel), rfl⟩
set_option maxRecDepth 100000 in
theorem ubw_415 : Cond.fieldLink "UpdateRobotModel" 28 "UpdateRobotModel" "advised" "[I" ∈ ub_T := List.mem_filter.mpr ⟨List.mem_of_getElem? (i := 415) (by decide +kernel), rfl⟩
set_option maxRecDepth 100000 in
theorem ubw_416 : Cond.fieldLink "UpdateRobotModel" 31 "UpdateRobotModel" "lastDue" "[I" ∈ ub_T := List.mem_filter.mpr ⟨List.mem_of_getElem? (i := 416) (by decide +kernel), rfl⟩
set_option maxRecDepth 100000 in
theorem ubw_417 : Cond.fieldLink "UpdateRobotModel" 34 "UpdateRobotModel" "kind" "[I" ∈ ub_T := List.mem_filter.mpr ⟨List.mem_of_getElem? (i := 417) (by decide +kernel), rfl⟩
set_option maxRecDepth 100000 in
theorem ubw_418 : Cond.fieldLink "UpdateRobotModel" 37 "UpdateRobotModel" "needOf" "[I" ∈ ub_T := List.mem_filter.mpr ⟨List.mem_of_getElem? (i := 418) (by decide +kernel), rfl⟩
set_option maxRecDepth 100000 in
theorem ubw_419 : Cond.fieldLink "UpdateRobotModel" 40 "UpdateRobotModel" "needLeast" "[I" ∈ ub_T := List.mem_filter.mpr ⟨List.mem_of_getElem? (i := 419) (by decide +kernel), rfl⟩
set_option maxRecDepth 100000 in
theorem ubw_420 : Cond.fieldLink "UpdateRobotModel" 43 "UpdateRobotModel" "trial" "[I" ∈ ub_T := List.mem_filter.mpr ⟨List.mem_of_getElem? (i := 420) (by decide +kernel), rfl⟩
set_option maxRecDepth 100000 in
theorem ubw_421 : Cond.fieldLink "UpdateRobotModel" 99 "UpdateRobotModel" "culprit" "I" ∈ ub_T := List.mem_filter.mpr ⟨List.mem_of_getElem? (i := 421) (by decide +kernel), rfl⟩
set_option maxRecDepth 100000 in
theorem ubw_422 : Cond.fieldLink "UpdateRobotModel" 46 "UpdateRobotModel" "state" "[I" ∈ ub_T := List.mem_filter.mpr ⟨List.mem_of_getElem? (i := 422) (by decide +kernel), rfl⟩
set_option maxRecDepth 100000 in
theorem ubw_423 : Cond.fieldLink "UpdateRobotModel" 49 "UpdateRobotModel" "itsChief" "[I" ∈ ub_T := List.mem_filter.mpr ⟨List.mem_of_getElem? (i := 423) (by decide +kernel), rfl⟩
set_option maxRecDepth 100000 in
theorem ubw_424 : Cond.fieldLink "UpdateRobotModel" 52 "UpdateRobotModel" "redone" "[I" ∈ ub_T := List.mem_filter.mpr ⟨List.mem_of_getElem? (i := 424) (by decide +kernel), rfl⟩
set_option maxRecDepth 100000 in
theorem ubw_425 : Cond.fieldLink "UpdateRobotModel" 55 "UpdateRobotModel" "opened" "[I" ∈ ub_T := List.mem_filter.mpr ⟨List.mem_of_getElem? (i := 425) (by decide +kernel), rfl⟩
set_option maxRecDepth 100000 in
theorem ubw_426 : Cond.fieldLink "UpdateRobotModel" 58 "UpdateRobotModel" "wasHit" "[I" ∈ ub_T := List.mem_filter.mpr ⟨List.mem_of_getElem? (i := 426) (by decide +kernel), rfl⟩
set_option maxRecDepth 100000 in
theorem ubw_427 : Cond.fieldLink "UpdateRobotModel" 61 "UpdateRobotModel" "target" "[I" ∈ ub_T := List.mem_filter.mpr ⟨List.mem_of_getElem? (i := 427) (by decide +kernel), rfl⟩
set_option maxRecDepth 100000 in
theorem ubw_479 : Cond.methodLink "UpdateRobotLaw" 25 ⟨"UpdateRobotModel", "name", "(I)I"⟩ ∈ ub_T := List.mem_filter.mpr ⟨List.mem_of_getElem? (i := 479) (by decide +kernel), rfl⟩
set_option maxRecDepth 100000 in
theorem ubw_480 : Cond.instanceMethod ⟨"UpdateRobotModel", "name", "(I)I"⟩ ∈ ub_T := List.mem_filter.mpr ⟨List.mem_of_getElem? (i := 480) (by decide +kernel), rfl⟩
set_option maxRecDepth 100000 in
theorem ubw_481 : Cond.selects "UpdateRobotModel" ⟨"UpdateRobotModel", "name", "(I)I"⟩ ⟨"UpdateRobotModel", "name", "(I)I"⟩ ∈ ub_T := List.mem_filter.mpr ⟨List.mem_of_getElem? (i := 481) (by decide +kernel), rfl⟩
set_option maxRecDepth 100000 in
theorem ubw_482 : Cond.code ⟨"UpdateRobotModel", "name", "(I)I"⟩ prog_6_method_4_code 2 (some .int) ∈ ub_T := List.mem_filter.mpr ⟨List.mem_of_getElem? (i := 482) rfl, rfl⟩
set_option maxRecDepth 100000 in
theorem ubw_483 : Cond.methodLink "UpdateRobotLaw" 30 ⟨"UpdateRobotModel", "newer", "(II)I"⟩ ∈ ub_T := List.mem_filter.mpr ⟨List.mem_of_getElem? (i := 483) (by decide +kernel), rfl⟩
set_option maxRecDepth 100000 in
theorem ubw_484 : Cond.instanceMethod ⟨"UpdateRobotModel", "newer", "(II)I"⟩ ∈ ub_T := List.mem_filter.mpr ⟨List.mem_of_getElem? (i := 484) (by decide +kernel), rfl⟩
set_option maxRecDepth 100000 in
theorem ubw_485 : Cond.selects "UpdateRobotModel" ⟨"UpdateRobotModel", "newer", "(II)I"⟩ ⟨"UpdateRobotModel", "newer", "(II)I"⟩ ∈ ub_T := List.mem_filter.mpr ⟨List.mem_of_getElem? (i := 485) (by decide +kernel), rfl⟩
set_option maxRecDepth 100000 in
theorem ubw_486 : Cond.code ⟨"UpdateRobotModel", "newer", "(II)I"⟩ prog_6_method_5_code 3 (some .int) ∈ ub_T := List.mem_filter.mpr ⟨List.mem_of_getElem? (i := 486) rfl, rfl⟩
set_option maxRecDepth 100000 in
theorem ubw_487 : Cond.methodLink "UpdateRobotModel" 74 ⟨"UpdateRobotModel", "isName", "(I)Z"⟩ ∈ ub_T := List.mem_filter.mpr ⟨List.mem_of_getElem? (i := 487) (by decide +kernel), rfl⟩
set_option maxRecDepth 100000 in
theorem ubw_489 : Cond.instanceMethod ⟨"UpdateRobotModel", "isName", "(I)Z"⟩ ∈ ub_T := List.mem_filter.mpr ⟨List.mem_of_getElem? (i := 489) (by decide +kernel), rfl⟩
set_option maxRecDepth 100000 in
theorem ubw_490 : Cond.code ⟨"UpdateRobotModel", "isName", "(I)Z"⟩ prog_6_method_3_code 2 (some .boolean) ∈ ub_T := List.mem_filter.mpr ⟨List.mem_of_getElem? (i := 490) rfl, rfl⟩
set_option maxRecDepth 100000 in
theorem ubw_491 : Cond.methodLink "UpdateRobotLaw" 35 ⟨"UpdateRobotModel", "needs", "(IIII)Z"⟩ ∈ ub_T := List.mem_filter.mpr ⟨List.mem_of_getElem? (i := 491) (by decide +kernel), rfl⟩
set_option maxRecDepth 100000 in
theorem ubw_492 : Cond.instanceMethod ⟨"UpdateRobotModel", "needs", "(IIII)Z"⟩ ∈ ub_T := List.mem_filter.mpr ⟨List.mem_of_getElem? (i := 492) (by decide +kernel), rfl⟩
set_option maxRecDepth 100000 in
theorem ubw_493 : Cond.selects "UpdateRobotModel" ⟨"UpdateRobotModel", "needs", "(IIII)Z"⟩ ⟨"UpdateRobotModel", "needs", "(IIII)Z"⟩ ∈ ub_T := List.mem_filter.mpr ⟨List.mem_of_getElem? (i := 493) (by decide +kernel), rfl⟩
set_option maxRecDepth 100000 in
theorem ubw_494 : Cond.code ⟨"UpdateRobotModel", "needs", "(IIII)Z"⟩ prog_6_method_6_code 5 (some .boolean) ∈ ub_T := List.mem_filter.mpr ⟨List.mem_of_getElem? (i := 494) rfl, rfl⟩
set_option maxRecDepth 100000 in
theorem ubw_495 : Cond.methodLink "UpdateRobotLaw" 39 ⟨"UpdateRobotModel", "rule", "(IIII)Z"⟩ ∈ ub_T := List.mem_filter.mpr ⟨List.mem_of_getElem? (i := 495) (by decide +kernel), rfl⟩
set_option maxRecDepth 100000 in
theorem ubw_496 : Cond.instanceMethod ⟨"UpdateRobotModel", "rule", "(IIII)Z"⟩ ∈ ub_T := List.mem_filter.mpr ⟨List.mem_of_getElem? (i := 496) (by decide +kernel), rfl⟩
set_option maxRecDepth 100000 in
theorem ubw_497 : Cond.selects "UpdateRobotModel" ⟨"UpdateRobotModel", "rule", "(IIII)Z"⟩ ⟨"UpdateRobotModel", "rule", "(IIII)Z"⟩ ∈ ub_T := List.mem_filter.mpr ⟨List.mem_of_getElem? (i := 497) (by decide +kernel), rfl⟩
set_option maxRecDepth 100000 in
theorem ubw_498 : Cond.code ⟨"UpdateRobotModel", "rule", "(IIII)Z"⟩ prog_6_method_7_code 5 (some .boolean) ∈ ub_T := List.mem_filter.mpr ⟨List.mem_of_getElem? (i := 498) rfl, rfl⟩
set_option maxRecDepth 100000 in
theorem ubw_499 : Cond.methodLink "UpdateRobotLaw" 44 ⟨"UpdateRobotModel", "advise", "(II)Z"⟩ ∈ ub_T := List.mem_filter.mpr ⟨List.mem_of_getElem? (i := 499) (by decide +kernel), rfl⟩
set_option maxRecDepth 100000 in
theorem ubw_500 : Cond.instanceMethod ⟨"UpdateRobotModel", "advise", "(II)Z"⟩ ∈ ub_T := List.mem_filter.mpr ⟨List.mem_of_getElem? (i := 500) (by decide +kernel), rfl⟩
set_option maxRecDepth 100000 in
theorem ubw_501 : Cond.selects "UpdateRobotModel" ⟨"UpdateRobotModel", "advise", "(II)Z"⟩ ⟨"UpdateRobotModel", "advise", "(II)Z"⟩ ∈ ub_T := List.mem_filter.mpr ⟨List.mem_of_getElem? (i := 501) (by decide +kernel), rfl⟩
set_option maxRecDepth 100000 in
theorem ubw_502 : Cond.code ⟨"UpdateRobotModel", "advise", "(II)Z"⟩ prog_6_method_8_code 3 (some .boolean) ∈ ub_T := List.mem_filter.mpr ⟨List.mem_of_getElem? (i := 502) rfl, rfl⟩
set_option maxRecDepth 100000 in
theorem ubw_503 : Cond.methodLink "UpdateRobotLaw" 48 ⟨"UpdateRobotModel", "has", "(I)I"⟩ ∈ ub_T := List.mem_filter.mpr ⟨List.mem_of_getElem? (i := 503) (by decide +kernel), rfl⟩
set_option maxRecDepth 100000 in
theorem ubw_504 : Cond.instanceMethod ⟨"UpdateRobotModel", "has", "(I)I"⟩ ∈ ub_T := List.mem_filter.mpr ⟨List.mem_of_getElem? (i := 504) (by decide +kernel), rfl⟩
set_option maxRecDepth 100000 in
theorem ubw_505 : Cond.selects "UpdateRobotModel" ⟨"UpdateRobotModel", "has", "(I)I"⟩ ⟨"UpdateRobotModel", "has", "(I)I"⟩ ∈ ub_T := List.mem_filter.mpr ⟨List.mem_of_getElem? (i := 505) (by decide +kernel), rfl⟩
set_option maxRecDepth 100000 in
theorem ubw_506 : Cond.code ⟨"UpdateRobotModel", "has", "(I)I"⟩ prog_6_method_9_code 2 (some .int) ∈ ub_T := List.mem_filter.mpr ⟨List.mem_of_getElem? (i := 506) rfl, rfl⟩
set_option maxRecDepth 100000 in
theorem ubw_507 : Cond.methodLink "UpdateRobotLaw" 52 ⟨"UpdateRobotModel", "goal", "(I)I"⟩ ∈ ub_T := List.mem_filter.mpr ⟨List.mem_of_getElem? (i := 507) (by decide +kernel), rfl⟩
set_option maxRecDepth 100000 in
theorem ubw_508 : Cond.instanceMethod ⟨"UpdateRobotModel", "goal", "(I)I"⟩ ∈ ub_T := List.mem_filter.mpr ⟨List.mem_of_getElem? (i := 508) (by decide +kernel), rfl⟩
set_option maxRecDepth 100000 in
theorem ubw_509 : Cond.selects "UpdateRobotModel" ⟨"UpdateRobotModel", "goal", "(I)I"⟩ ⟨"UpdateRobotModel", "goal", "(I)I"⟩ ∈ ub_T := List.mem_filter.mpr ⟨List.mem_of_getElem? (i := 509) (by decide +kernel), rfl⟩
set_option maxRecDepth 100000 in
theorem ubw_510 : Cond.code ⟨"UpdateRobotModel", "goal", "(I)I"⟩ prog_6_method_13_code 2 (some .int) ∈ ub_T := List.mem_filter.mpr ⟨List.mem_of_getElem? (i := 510) rfl, rfl⟩
set_option maxRecDepth 100000 in
theorem ubw_511 : Cond.methodLink "UpdateRobotModel" 85 ⟨"UpdateRobotModel", "goalOf", "(I)I"⟩ ∈ ub_T := List.mem_filter.mpr ⟨List.mem_of_getElem? (i := 511) (by decide +kernel), rfl⟩
set_option maxRecDepth 100000 in
theorem ubw_513 : Cond.instanceMethod ⟨"UpdateRobotModel", "goalOf", "(I)I"⟩ ∈ ub_T := List.mem_filter.mpr ⟨List.mem_of_getElem? (i := 513) (by decide +kernel), rfl⟩
set_option maxRecDepth 100000 in
theorem ubw_514 : Cond.code ⟨"UpdateRobotModel", "goalOf", "(I)I"⟩ prog_6_method_12_code 3 (some .int) ∈ ub_T := List.mem_filter.mpr ⟨List.mem_of_getElem? (i := 514) rfl, rfl⟩
set_option maxRecDepth 100000 in
theorem ubw_515 : Cond.methodLink "UpdateRobotModel" 78 ⟨"UpdateRobotModel", "isAllowed", "(II)Z"⟩ ∈ ub_T := List.mem_filter.mpr ⟨List.mem_of_getElem? (i := 515) (by decide +kernel), rfl⟩
set_option maxRecDepth 100000 in
theorem ubw_517 : Cond.instanceMethod ⟨"UpdateRobotModel", "isAllowed", "(II)Z"⟩ ∈ ub_T := List.mem_filter.mpr ⟨List.mem_of_getElem? (i := 517) (by decide +kernel), rfl⟩
set_option maxRecDepth 100000 in
theorem ubw_518 : Cond.code ⟨"UpdateRobotModel", "isAllowed", "(II)Z"⟩ prog_6_method_11_code 5 (some .boolean) ∈ ub_T := List.mem_filter.mpr ⟨List.mem_of_getElem? (i := 518) rfl, rfl⟩
set_option maxRecDepth 100000 in
theorem ubw_519 : Cond.methodLink "UpdateRobotModel" 82 ⟨"UpdateRobotModel", "isHit", "(I)Z"⟩ ∈ ub_T := List.mem_filter.mpr ⟨List.mem_of_getElem? (i := 519) (by decide +kernel), rfl⟩
set_option maxRecDepth 100000 in
theorem ubw_521 : Cond.instanceMethod ⟨"UpdateRobotModel", "isHit", "(I)Z"⟩ ∈ ub_T := List.mem_filter.mpr ⟨List.mem_of_getElem? (i := 521) (by decide +kernel), rfl⟩
set_option maxRecDepth 100000 in
theorem ubw_522 : Cond.code ⟨"UpdateRobotModel", "isHit", "(I)Z"⟩ prog_6_method_10_code 2 (some .boolean) ∈ ub_T := List.mem_filter.mpr ⟨List.mem_of_getElem? (i := 522) rfl, rfl⟩
set_option maxRecDepth 100000 in
theorem ubw_523 : Cond.methodLink "UpdateRobotLaw" 56 ⟨"UpdateRobotModel", "chief", "(I)I"⟩ ∈ ub_T := List.mem_filter.mpr ⟨List.mem_of_getElem? (i := 523) (by decide +kernel), rfl⟩
set_option maxRecDepth 100000 in
theorem ubw_524 : Cond.instanceMethod ⟨"UpdateRobotModel", "chief", "(I)I"⟩ ∈ ub_T := List.mem_filter.mpr ⟨List.mem_of_getElem? (i := 524) (by decide +kernel), rfl⟩
set_option maxRecDepth 100000 in
theorem ubw_525 : Cond.selects "UpdateRobotModel" ⟨"UpdateRobotModel", "chief", "(I)I"⟩ ⟨"UpdateRobotModel", "chief", "(I)I"⟩ ∈ ub_T := List.mem_filter.mpr ⟨List.mem_of_getElem? (i := 525) (by decide +kernel), rfl⟩
set_option maxRecDepth 100000 in
theorem ubw_526 : Cond.code ⟨"UpdateRobotModel", "chief", "(I)I"⟩ prog_6_method_16_code 2 (some .int) ∈ ub_T := List.mem_filter.mpr ⟨List.mem_of_getElem? (i := 526) rfl, rfl⟩
set_option maxRecDepth 100000 in
theorem ubw_527 : Cond.methodLink "UpdateRobotModel" 92 ⟨"UpdateRobotModel", "chiefOf", "(I)I"⟩ ∈ ub_T := List.mem_filter.mpr ⟨List.mem_of_getElem? (i := 527) (by decide +kernel), rfl⟩
set_option maxRecDepth 100000 in
theorem ubw_529 : Cond.instanceMethod ⟨"UpdateRobotModel", "chiefOf", "(I)I"⟩ ∈ ub_T := List.mem_filter.mpr ⟨List.mem_of_getElem? (i := 529) (by decide +kernel), rfl⟩
set_option maxRecDepth 100000 in
theorem ubw_530 : Cond.code ⟨"UpdateRobotModel", "chiefOf", "(I)I"⟩ prog_6_method_15_code 3 (some .int) ∈ ub_T := List.mem_filter.mpr ⟨List.mem_of_getElem? (i := 530) rfl, rfl⟩
set_option maxRecDepth 100000 in
theorem ubw_531 : Cond.methodLink "UpdateRobotModel" 89 ⟨"UpdateRobotModel", "areOne", "(II)Z"⟩ ∈ ub_T := List.mem_filter.mpr ⟨List.mem_of_getElem? (i := 531) (by decide +kernel), rfl⟩
set_option maxRecDepth 100000 in
theorem ubw_533 : Cond.instanceMethod ⟨"UpdateRobotModel", "areOne", "(II)Z"⟩ ∈ ub_T := List.mem_filter.mpr ⟨List.mem_of_getElem? (i := 533) (by decide +kernel), rfl⟩
set_option maxRecDepth 100000 in
theorem ubw_534 : Cond.code ⟨"UpdateRobotModel", "areOne", "(II)Z"⟩ prog_6_method_14_code 3 (some .boolean) ∈ ub_T := List.mem_filter.mpr ⟨List.mem_of_getElem? (i := 534) rfl, rfl⟩
set_option maxRecDepth 100000 in
theorem ubw_535 : Cond.methodLink "UpdateRobotLaw" 60 ⟨"UpdateRobotModel", "solve", "(I)I"⟩ ∈ ub_T := List.mem_filter.mpr ⟨List.mem_of_getElem? (i := 535) (by decide +kernel), rfl⟩
set_option maxRecDepth 100000 in
theorem ubw_536 : Cond.instanceMethod ⟨"UpdateRobotModel", "solve", "(I)I"⟩ ∈ ub_T := List.mem_filter.mpr ⟨List.mem_of_getElem? (i := 536) (by decide +kernel), rfl⟩
set_option maxRecDepth 100000 in
theorem ubw_537 : Cond.selects "UpdateRobotModel" ⟨"UpdateRobotModel", "solve", "(I)I"⟩ ⟨"UpdateRobotModel", "solve", "(I)I"⟩ ∈ ub_T := List.mem_filter.mpr ⟨List.mem_of_getElem? (i := 537) (by decide +kernel), rfl⟩
set_option maxRecDepth 100000 in
theorem ubw_538 : Cond.code ⟨"UpdateRobotModel", "solve", "(I)I"⟩ prog_6_method_19_code 3 (some .int) ∈ ub_T := List.mem_filter.mpr ⟨List.mem_of_getElem? (i := 538) rfl, rfl⟩
set_option maxRecDepth 100000 in
theorem ubw_539 : Cond.methodLink "UpdateRobotModel" 102 ⟨"UpdateRobotModel", "find", "(I)I"⟩ ∈ ub_T := List.mem_filter.mpr ⟨List.mem_of_getElem? (i := 539) (by decide +kernel), rfl⟩
set_option maxRecDepth 100000 in
theorem ubw_541 : Cond.instanceMethod ⟨"UpdateRobotModel", "find", "(I)I"⟩ ∈ ub_T := List.mem_filter.mpr ⟨List.mem_of_getElem? (i := 541) (by decide +kernel), rfl⟩
set_option maxRecDepth 100000 in
theorem ubw_542 : Cond.code ⟨"UpdateRobotModel", "find", "(I)I"⟩ prog_6_method_18_code 4 (some .int) ∈ ub_T := List.mem_filter.mpr ⟨List.mem_of_getElem? (i := 542) rfl, rfl⟩
set_option maxRecDepth 100000 in
theorem ubw_543 : Cond.methodLink "UpdateRobotModel" 95 ⟨"UpdateRobotModel", "wanting", "()I"⟩ ∈ ub_T := List.mem_filter.mpr ⟨List.mem_of_getElem? (i := 543) (by decide +kernel), rfl⟩
set_option maxRecDepth 100000 in
theorem ubw_545 : Cond.instanceMethod ⟨"UpdateRobotModel", "wanting", "()I"⟩ ∈ ub_T := List.mem_filter.mpr ⟨List.mem_of_getElem? (i := 545) (by decide +kernel), rfl⟩
set_option maxRecDepth 100000 in
theorem ubw_546 : Cond.code ⟨"UpdateRobotModel", "wanting", "()I"⟩ prog_6_method_17_code 3 (some .int) ∈ ub_T := List.mem_filter.mpr ⟨List.mem_of_getElem? (i := 546) rfl, rfl⟩
set_option maxRecDepth 100000 in
theorem ubw_547 : Cond.methodLink "UpdateRobotLaw" 64 ⟨"UpdateRobotModel", "tick", "(I)I"⟩ ∈ ub_T := List.mem_filter.mpr ⟨List.mem_of_getElem? (i := 547) (by decide +kernel), rfl⟩
set_option maxRecDepth 100000 in
theorem ubw_548 : Cond.instanceMethod ⟨"UpdateRobotModel", "tick", "(I)I"⟩ ∈ ub_T := List.mem_filter.mpr ⟨List.mem_of_getElem? (i := 548) (by decide +kernel), rfl⟩
set_option maxRecDepth 100000 in
theorem ubw_549 : Cond.selects "UpdateRobotModel" ⟨"UpdateRobotModel", "tick", "(I)I"⟩ ⟨"UpdateRobotModel", "tick", "(I)I"⟩ ∈ ub_T := List.mem_filter.mpr ⟨List.mem_of_getElem? (i := 549) (by decide +kernel), rfl⟩
set_option maxRecDepth 100000 in
theorem ubw_550 : Cond.code ⟨"UpdateRobotModel", "tick", "(I)I"⟩ prog_6_method_20_code 2 (some .int) ∈ ub_T := List.mem_filter.mpr ⟨List.mem_of_getElem? (i := 550) rfl, rfl⟩
set_option maxRecDepth 100000 in
theorem ubw_551 : Cond.constant "UpdateRobotModel" 105 (100000 : Int32) ∈ ub_T := List.mem_filter.mpr ⟨List.mem_of_getElem? (i := 551) (by decide +kernel), rfl⟩
set_option maxRecDepth 100000 in
theorem ubw_552 : Cond.constant "UpdateRobotModel" 109 (1000000000 : Int32) ∈ ub_T := List.mem_filter.mpr ⟨List.mem_of_getElem? (i := 552) (by decide +kernel), rfl⟩
set_option maxRecDepth 100000 in
theorem ubw_553 : Cond.methodLink "UpdateRobotLaw" 69 ⟨"UpdateRobotModel", "run", "()I"⟩ ∈ ub_T := List.mem_filter.mpr ⟨List.mem_of_getElem? (i := 553) (by decide +kernel), rfl⟩
set_option maxRecDepth 100000 in
theorem ubw_554 : Cond.instanceMethod ⟨"UpdateRobotModel", "run", "()I"⟩ ∈ ub_T := List.mem_filter.mpr ⟨List.mem_of_getElem? (i := 554) (by decide +kernel), rfl⟩
set_option maxRecDepth 100000 in
theorem ubw_555 : Cond.selects "UpdateRobotModel" ⟨"UpdateRobotModel", "run", "()I"⟩ ⟨"UpdateRobotModel", "run", "()I"⟩ ∈ ub_T := List.mem_filter.mpr ⟨List.mem_of_getElem? (i := 555) (by decide +kernel), rfl⟩
set_option maxRecDepth 100000 in
theorem ubw_556 : Cond.code ⟨"UpdateRobotModel", "run", "()I"⟩ prog_6_method_29_code 4 (some .int) ∈ ub_T := List.mem_filter.mpr ⟨List.mem_of_getElem? (i := 556) rfl, rfl⟩
set_option maxRecDepth 100000 in
theorem ubw_557 : Cond.methodLink "UpdateRobotModel" 136 ⟨"UpdateRobotModel", "isDue", "(I)Z"⟩ ∈ ub_T := List.mem_filter.mpr ⟨List.mem_of_getElem? (i := 557) (by decide +kernel), rfl⟩
set_option maxRecDepth 100000 in
theorem ubw_559 : Cond.instanceMethod ⟨"UpdateRobotModel", "isDue", "(I)Z"⟩ ∈ ub_T := List.mem_filter.mpr ⟨List.mem_of_getElem? (i := 559) (by decide +kernel), rfl⟩
set_option maxRecDepth 100000 in
theorem ubw_560 : Cond.code ⟨"UpdateRobotModel", "isDue", "(I)Z"⟩ prog_6_method_26_code 5 (some .boolean) ∈ ub_T := List.mem_filter.mpr ⟨List.mem_of_getElem? (i := 560) rfl, rfl⟩
set_option maxRecDepth 100000 in
theorem ubw_561 : Cond.methodLink "UpdateRobotModel" 139 ⟨"UpdateRobotModel", "propose", "(I)I"⟩ ∈ ub_T := List.mem_filter.mpr ⟨List.mem_of_getElem? (i := 561) (by decide +kernel), rfl⟩
set_option maxRecDepth 100000 in
theorem ubw_563 : Cond.instanceMethod ⟨"UpdateRobotModel", "propose", "(I)I"⟩ ∈ ub_T := List.mem_filter.mpr ⟨List.mem_of_getElem? (i := 563) (by decide +kernel), rfl⟩
set_option maxRecDepth 100000 in
theorem ubw_564 : Cond.code ⟨"UpdateRobotModel", "propose", "(I)I"⟩ prog_6_method_28_code 6 (some .int) ∈ ub_T := List.mem_filter.mpr ⟨List.mem_of_getElem? (i := 564) rfl, rfl⟩
set_option maxRecDepth 100000 in
theorem ubw_565 : Cond.methodLink "UpdateRobotModel" 116 ⟨"UpdateRobotModel", "latest", "(II)I"⟩ ∈ ub_T := List.mem_filter.mpr ⟨List.mem_of_getElem? (i := 565) (by decide +kernel), rfl⟩
set_option maxRecDepth 100000 in
theorem ubw_567 : Cond.instanceMethod ⟨"UpdateRobotModel", "latest", "(II)I"⟩ ∈ ub_T := List.mem_filter.mpr ⟨List.mem_of_getElem? (i := 567) (by decide +kernel), rfl⟩
set_option maxRecDepth 100000 in
theorem ubw_568 : Cond.code ⟨"UpdateRobotModel", "latest", "(II)I"⟩ prog_6_method_24_code 5 (some .int) ∈ ub_T := List.mem_filter.mpr ⟨List.mem_of_getElem? (i := 568) rfl, rfl⟩
set_option maxRecDepth 100000 in
theorem ubw_569 : Cond.methodLink "UpdateRobotModel" 120 ⟨"UpdateRobotModel", "isSame", "(I)Z"⟩ ∈ ub_T := List.mem_filter.mpr ⟨List.mem_of_getElem? (i := 569) (by decide +kernel), rfl⟩
set_option maxRecDepth 100000 in
theorem ubw_571 : Cond.instanceMethod ⟨"UpdateRobotModel", "isSame", "(I)Z"⟩ ∈ ub_T := List.mem_filter.mpr ⟨List.mem_of_getElem? (i := 571) (by decide +kernel), rfl⟩
set_option maxRecDepth 100000 in
theorem ubw_572 : Cond.code ⟨"UpdateRobotModel", "isSame", "(I)Z"⟩ prog_6_method_22_code 4 (some .boolean) ∈ ub_T := List.mem_filter.mpr ⟨List.mem_of_getElem? (i := 572) rfl, rfl⟩
set_option maxRecDepth 100000 in
theorem ubw_573 : Cond.methodLink "UpdateRobotModel" 110 ⟨"UpdateRobotModel", "raised", "(I)I"⟩ ∈ ub_T := List.mem_filter.mpr ⟨List.mem_of_getElem? (i := 573) (by decide +kernel), rfl⟩
set_option maxRecDepth 100000 in
theorem ubw_575 : Cond.instanceMethod ⟨"UpdateRobotModel", "raised", "(I)I"⟩ ∈ ub_T := List.mem_filter.mpr ⟨List.mem_of_getElem? (i := 575) (by decide +kernel), rfl⟩
set_option maxRecDepth 100000 in
theorem ubw_576 : Cond.code ⟨"UpdateRobotModel", "raised", "(I)I"⟩ prog_6_method_21_code 2 (some .int) ∈ ub_T := List.mem_filter.mpr ⟨List.mem_of_getElem? (i := 576) rfl, rfl⟩
set_option maxRecDepth 100000 in
theorem ubw_577 : Cond.methodLink "UpdateRobotModel" 123 ⟨"UpdateRobotModel", "isUnitHit", "(I)Z"⟩ ∈ ub_T := List.mem_filter.mpr ⟨List.mem_of_getElem? (i := 577) (by decide +kernel), rfl⟩
set_option maxRecDepth 100000 in
theorem ubw_579 : Cond.instanceMethod ⟨"UpdateRobotModel", "isUnitHit", "(I)Z"⟩ ∈ ub_T := List.mem_filter.mpr ⟨List.mem_of_getElem? (i := 579) (by decide +kernel), rfl⟩
set_option maxRecDepth 100000 in
theorem ubw_580 : Cond.code ⟨"UpdateRobotModel", "isUnitHit", "(I)Z"⟩ prog_6_method_27_code 4 (some .boolean) ∈ ub_T := List.mem_filter.mpr ⟨List.mem_of_getElem? (i := 580) rfl, rfl⟩
set_option maxRecDepth 100000 in
theorem ubw_581 : Cond.methodLink "UpdateRobotModel" 126 ⟨"UpdateRobotModel", "opens", "(I)I"⟩ ∈ ub_T := List.mem_filter.mpr ⟨List.mem_of_getElem? (i := 581) (by decide +kernel), rfl⟩
set_option maxRecDepth 100000 in
theorem ubw_583 : Cond.instanceMethod ⟨"UpdateRobotModel", "opens", "(I)I"⟩ ∈ ub_T := List.mem_filter.mpr ⟨List.mem_of_getElem? (i := 583) (by decide +kernel), rfl⟩
set_option maxRecDepth 100000 in
theorem ubw_584 : Cond.code ⟨"UpdateRobotModel", "opens", "(I)I"⟩ prog_6_method_25_code 4 (some .int) ∈ ub_T := List.mem_filter.mpr ⟨List.mem_of_getElem? (i := 584) rfl, rfl⟩
set_option maxRecDepth 100000 in
theorem ubw_585 : Cond.methodLink "UpdateRobotModel" 129 ⟨"UpdateRobotModel", "fill", "(I)V"⟩ ∈ ub_T := List.mem_filter.mpr ⟨List.mem_of_getElem? (i := 585) (by decide +kernel), rfl⟩
set_option maxRecDepth 100000 in
theorem ubw_587 : Cond.instanceMethod ⟨"UpdateRobotModel", "fill", "(I)V"⟩ ∈ ub_T := List.mem_filter.mpr ⟨List.mem_of_getElem? (i := 587) (by decide +kernel), rfl⟩
set_option maxRecDepth 100000 in
theorem ubw_588 : Cond.code ⟨"UpdateRobotModel", "fill", "(I)V"⟩ prog_6_method_23_code 3 none ∈ ub_T := List.mem_filter.mpr ⟨List.mem_of_getElem? (i := 588) rfl, rfl⟩
set_option maxRecDepth 100000 in
theorem ubw_589 : Cond.methodLink "UpdateRobotLaw" 73 ⟨"UpdateRobotModel", "waiting", "()I"⟩ ∈ ub_T := List.mem_filter.mpr ⟨List.mem_of_getElem? (i := 589) (by decide +kernel), rfl⟩
set_option maxRecDepth 100000 in
theorem ubw_590 : Cond.instanceMethod ⟨"UpdateRobotModel", "waiting", "()I"⟩ ∈ ub_T := List.mem_filter.mpr ⟨List.mem_of_getElem? (i := 590) (by decide +kernel), rfl⟩
set_option maxRecDepth 100000 in
theorem ubw_591 : Cond.selects "UpdateRobotModel" ⟨"UpdateRobotModel", "waiting", "()I"⟩ ⟨"UpdateRobotModel", "waiting", "()I"⟩ ∈ ub_T := List.mem_filter.mpr ⟨List.mem_of_getElem? (i := 591) (by decide +kernel), rfl⟩
set_option maxRecDepth 100000 in
theorem ubw_592 : Cond.code ⟨"UpdateRobotModel", "waiting", "()I"⟩ prog_6_method_30_code 1 (some .int) ∈ ub_T := List.mem_filter.mpr ⟨List.mem_of_getElem? (i := 592) rfl, rfl⟩
set_option maxRecDepth 100000 in
theorem ubw_593 : Cond.methodLink "UpdateRobotLaw" 77 ⟨"UpdateRobotModel", "about", "(II)I"⟩ ∈ ub_T := List.mem_filter.mpr ⟨List.mem_of_getElem? (i := 593) (by decide +kernel), rfl⟩
set_option maxRecDepth 100000 in
theorem ubw_594 : Cond.instanceMethod ⟨"UpdateRobotModel", "about", "(II)I"⟩ ∈ ub_T := List.mem_filter.mpr ⟨List.mem_of_getElem? (i := 594) (by decide +kernel), rfl⟩
set_option maxRecDepth 100000 in
theorem ubw_595 : Cond.selects "UpdateRobotModel" ⟨"UpdateRobotModel", "about", "(II)I"⟩ ⟨"UpdateRobotModel", "about", "(II)I"⟩ ∈ ub_T := List.mem_filter.mpr ⟨List.mem_of_getElem? (i := 595) (by decide +kernel), rfl⟩
set_option maxRecDepth 100000 in
theorem ubw_596 : Cond.code ⟨"UpdateRobotModel", "about", "(II)I"⟩ prog_6_method_31_code 3 (some .int) ∈ ub_T := List.mem_filter.mpr ⟨List.mem_of_getElem? (i := 596) rfl, rfl⟩
set_option maxRecDepth 100000 in
theorem ubw_597 : Cond.methodLink "UpdateRobotLaw" 81 ⟨"UpdateRobotModel", "target", "(II)I"⟩ ∈ ub_T := List.mem_filter.mpr ⟨List.mem_of_getElem? (i := 597) (by decide +kernel), rfl⟩
set_option maxRecDepth 100000 in
theorem ubw_598 : Cond.instanceMethod ⟨"UpdateRobotModel", "target", "(II)I"⟩ ∈ ub_T := List.mem_filter.mpr ⟨List.mem_of_getElem? (i := 598) (by decide +kernel), rfl⟩
set_option maxRecDepth 100000 in
theorem ubw_599 : Cond.selects "UpdateRobotModel" ⟨"UpdateRobotModel", "target", "(II)I"⟩ ⟨"UpdateRobotModel", "target", "(II)I"⟩ ∈ ub_T := List.mem_filter.mpr ⟨List.mem_of_getElem? (i := 599) (by decide +kernel), rfl⟩
set_option maxRecDepth 100000 in
theorem ubw_600 : Cond.code ⟨"UpdateRobotModel", "target", "(II)I"⟩ prog_6_method_32_code 3 (some .int) ∈ ub_T := List.mem_filter.mpr ⟨List.mem_of_getElem? (i := 600) rfl, rfl⟩
set_option maxRecDepth 100000 in
theorem ubw_601 : Cond.methodLink "UpdateRobotLaw" 86 ⟨"UpdateRobotModel", "pass", "(IZ)I"⟩ ∈ ub_T := List.mem_filter.mpr ⟨List.mem_of_getElem? (i := 601) (by decide +kernel), rfl⟩
set_option maxRecDepth 100000 in
theorem ubw_602 : Cond.instanceMethod ⟨"UpdateRobotModel", "pass", "(IZ)I"⟩ ∈ ub_T := List.mem_filter.mpr ⟨List.mem_of_getElem? (i := 602) (by decide +kernel), rfl⟩
set_option maxRecDepth 100000 in
theorem ubw_603 : Cond.selects "UpdateRobotModel" ⟨"UpdateRobotModel", "pass", "(IZ)I"⟩ ⟨"UpdateRobotModel", "pass", "(IZ)I"⟩ ∈ ub_T := List.mem_filter.mpr ⟨List.mem_of_getElem? (i := 603) (by decide +kernel), rfl⟩
set_option maxRecDepth 100000 in
theorem ubw_604 : Cond.code ⟨"UpdateRobotModel", "pass", "(IZ)I"⟩ prog_6_method_34_code 8 (some .int) ∈ ub_T := List.mem_filter.mpr ⟨List.mem_of_getElem? (i := 604) rfl, rfl⟩
set_option maxRecDepth 100000 in
theorem ubw_605 : Cond.methodLink "UpdateRobotModel" 142 ⟨"UpdateRobotModel", "redo", "(I)V"⟩ ∈ ub_T := List.mem_filter.mpr ⟨List.mem_of_getElem? (i := 605) (by decide +kernel), rfl⟩
set_option maxRecDepth 100000 in
theorem ubw_607 : Cond.instanceMethod ⟨"UpdateRobotModel", "redo", "(I)V"⟩ ∈ ub_T := List.mem_filter.mpr ⟨List.mem_of_getElem? (i := 607) (by decide +kernel), rfl⟩
set_option maxRecDepth 100000 in
theorem ubw_608 : Cond.code ⟨"UpdateRobotModel", "redo", "(I)V"⟩ prog_6_method_33_code 3 none ∈ ub_T := List.mem_filter.mpr ⟨List.mem_of_getElem? (i := 608) rfl, rfl⟩
set_option maxRecDepth 100000 in
theorem ubw_609 : Cond.methodLink "UpdateRobotLaw" 90 ⟨"UpdateRobotModel", "open", "(I)I"⟩ ∈ ub_T := List.mem_filter.mpr ⟨List.mem_of_getElem? (i := 609) (by decide +kernel), rfl⟩
set_option maxRecDepth 100000 in
theorem ubw_610 : Cond.instanceMethod ⟨"UpdateRobotModel", "open", "(I)I"⟩ ∈ ub_T := List.mem_filter.mpr ⟨List.mem_of_getElem? (i := 610) (by decide +kernel), rfl⟩
set_option maxRecDepth 100000 in
theorem ubw_611 : Cond.selects "UpdateRobotModel" ⟨"UpdateRobotModel", "open", "(I)I"⟩ ⟨"UpdateRobotModel", "open", "(I)I"⟩ ∈ ub_T := List.mem_filter.mpr ⟨List.mem_of_getElem? (i := 611) (by decide +kernel), rfl⟩
set_option maxRecDepth 100000 in
theorem ubw_612 : Cond.code ⟨"UpdateRobotModel", "open", "(I)I"⟩ prog_6_method_35_code 2 (some .int) ∈ ub_T := List.mem_filter.mpr ⟨List.mem_of_getElem? (i := 612) rfl, rfl⟩
theorem ub_w_min_s : Cond.static Lib.Math.min.name ∈ ub_T := ubw_44
theorem ub_w_min_c : Cond.code Lib.Math.min.name Lib.Math.min.code 2 (some .int) ∈ ub_T := ubw_45
theorem ub_w_max_s : Cond.static Lib.Math.max.name ∈ ub_T := ubw_47
theorem ub_w_max_c : Cond.code Lib.Math.max.name Lib.Math.max.code 2 (some .int) ∈ ub_T := ubw_48
theorem ub_w_Math_i : Cond.initialized "java/lang/Math" ∈ ub_T := ubw_30
abbrev urb_Rb_isRepository : ByteArray := prog_1_method_18_code
abbrev ury_Rb_isRepository : MethodName := ⟨"UpdateRobot", "isRepository", "(I)Z"⟩
abbrev urs_Rb_isRepository : List Cond := .code ury_Rb_isRepository urb_Rb_isRepository 1 (some .boolean) :: ub_T
abbrev urr_Rb_isRepository : Room := { frames := 0, cells := 0, slots := 0, locals := 0 }
theorem urm_Rb_isRepository : Cond.code ury_Rb_isRepository urb_Rb_isRepository 1 (some .boolean) ∈ ub_T := ubw_185
abbrev urb_Nm_add : ByteArray := prog_2_method_4_code
abbrev ury_Nm_add : MethodName := ⟨"UpdateRobot$Names", "add", "(I)I"⟩
abbrev urs_Nm_add : List Cond := .code ury_Nm_add urb_Nm_add 3 (some .int) :: ub_T
abbrev urr_Nm_add : Room := { frames := 0, cells := 0, slots := 0, locals := 0 }
theorem urm_Nm_add : Cond.code ury_Nm_add urb_Nm_add 3 (some .int) ∈ ub_T := ubw_189
abbrev urb_Rb_name : ByteArray := prog_1_method_2_code
abbrev ury_Rb_name : MethodName := ⟨"UpdateRobot", "name", "(I)I"⟩
abbrev urs_Rb_name : List Cond := .code ury_Rb_name urb_Rb_name 2 (some .int) :: ub_T
abbrev urr_Rb_name : Room := { frames := 1, cells := 0, slots := 0, locals := 22 }
theorem urm_Rb_name : Cond.code ury_Rb_name urb_Rb_name 2 (some .int) ∈ ub_T := ubw_182
abbrev urb_Nm_isKnown : ByteArray := prog_2_method_2_code
abbrev ury_Nm_isKnown : MethodName := ⟨"UpdateRobot$Names", "isKnown", "(I)Z"⟩
abbrev urs_Nm_isKnown : List Cond := .code ury_Nm_isKnown urb_Nm_isKnown 2 (some .boolean) :: ub_T
abbrev urr_Nm_isKnown : Room := { frames := 0, cells := 0, slots := 0, locals := 0 }
theorem urm_Nm_isKnown : Cond.code ury_Nm_isKnown urb_Nm_isKnown 2 (some .boolean) ∈ ub_T := ubw_197
abbrev urb_Nm_addVersion : ByteArray := prog_2_method_5_code
abbrev ury_Nm_addVersion : MethodName := ⟨"UpdateRobot$Names", "addVersion", "(II)I"⟩
abbrev urs_Nm_addVersion : List Cond := .code ury_Nm_addVersion urb_Nm_addVersion 4 (some .int) :: ub_T
abbrev urr_Nm_addVersion : Room := { frames := 0, cells := 0, slots := 0, locals := 0 }
theorem urm_Nm_addVersion : Cond.code ury_Nm_addVersion urb_Nm_addVersion 4 (some .int) ∈ ub_T := ubw_201
abbrev urb_Rb_newer : ByteArray := prog_1_method_3_code
abbrev ury_Rb_newer : MethodName := ⟨"UpdateRobot", "newer", "(II)I"⟩
abbrev urs_Rb_newer : List Cond := .code ury_Rb_newer urb_Rb_newer 3 (some .int) :: ub_T
abbrev urr_Rb_newer : Room := { frames := 1, cells := 0, slots := 0, locals := 23 }
theorem urm_Rb_newer : Cond.code ury_Rb_newer urb_Rb_newer 3 (some .int) ∈ ub_T := ubw_193
abbrev urb_Nm_hasVersion : ByteArray := prog_2_method_3_code
abbrev ury_Nm_hasVersion : MethodName := ⟨"UpdateRobot$Names", "hasVersion", "(II)Z"⟩
abbrev urs_Nm_hasVersion : List Cond := .code ury_Nm_hasVersion urb_Nm_hasVersion 3 (some .boolean) :: ub_T
abbrev urr_Nm_hasVersion : Room := { frames := 1, cells := 0, slots := 0, locals := 21 }
theorem urm_Nm_hasVersion : Cond.code ury_Nm_hasVersion urb_Nm_hasVersion 3 (some .boolean) ∈ ub_T := ubw_209
abbrev urb_Rb_needs : ByteArray := prog_1_method_4_code
abbrev ury_Rb_needs : MethodName := ⟨"UpdateRobot", "needs", "(IIII)Z"⟩
abbrev urs_Rb_needs : List Cond := .code ury_Rb_needs urb_Rb_needs 5 (some .boolean) :: ub_T
abbrev urr_Rb_needs : Room := { frames := 2, cells := 0, slots := 0, locals := 43 }
theorem urm_Rb_needs : Cond.code ury_Rb_needs urb_Rb_needs 5 (some .boolean) ∈ ub_T := ubw_205
abbrev urb_Rb_rule : ByteArray := prog_1_method_5_code
abbrev ury_Rb_rule : MethodName := ⟨"UpdateRobot", "rule", "(IIII)Z"⟩
abbrev urs_Rb_rule : List Cond := .code ury_Rb_rule urb_Rb_rule 5 (some .boolean) :: ub_T
abbrev urr_Rb_rule : Room := { frames := 1, cells := 0, slots := 0, locals := 21 }
theorem urm_Rb_rule : Cond.code ury_Rb_rule urb_Rb_rule 5 (some .boolean) ∈ ub_T := ubw_214
abbrev urb_Rb_advise : ByteArray := prog_1_method_6_code
abbrev ury_Rb_advise : MethodName := ⟨"UpdateRobot", "advise", "(II)Z"⟩
abbrev urs_Rb_advise : List Cond := .code ury_Rb_advise urb_Rb_advise 3 (some .boolean) :: ub_T
abbrev urr_Rb_advise : Room := { frames := 2, cells := 0, slots := 0, locals := 43 }
theorem urm_Rb_advise : Cond.code ury_Rb_advise urb_Rb_advise 3 (some .boolean) ∈ ub_T := ubw_218
abbrev urb_Rb_has : ByteArray := prog_1_method_7_code
abbrev ury_Rb_has : MethodName := ⟨"UpdateRobot", "has", "(I)I"⟩
abbrev urs_Rb_has : List Cond := .code ury_Rb_has urb_Rb_has 2 (some .int) :: ub_T
abbrev urr_Rb_has : Room := { frames := 1, cells := 0, slots := 0, locals := 21 }
theorem urm_Rb_has : Cond.code ury_Rb_has urb_Rb_has 2 (some .int) ∈ ub_T := ubw_222
abbrev urb_Nm_farthestAllowed : ByteArray := prog_2_method_8_code
abbrev ury_Nm_farthestAllowed : MethodName := ⟨"UpdateRobot$Names", "farthestAllowed", "(I)I"⟩
abbrev urs_Nm_farthestAllowed : List Cond := .code ury_Nm_farthestAllowed urb_Nm_farthestAllowed 4 (some .int) :: ub_T
abbrev urr_Nm_farthestAllowed : Room := { frames := 0, cells := 0, slots := 0, locals := 0 }
theorem urm_Nm_farthestAllowed : Cond.code ury_Nm_farthestAllowed urb_Nm_farthestAllowed 4 (some .int) ∈ ub_T := ubw_234
abbrev urb_Nm_isHit : ByteArray := prog_2_method_6_code
abbrev ury_Nm_isHit : MethodName := ⟨"UpdateRobot$Names", "isHit", "(I)Z"⟩
abbrev urs_Nm_isHit : List Cond := .code ury_Nm_isHit urb_Nm_isHit 2 (some .boolean) :: ub_T
abbrev urr_Nm_isHit : Room := { frames := 0, cells := 0, slots := 0, locals := 0 }
theorem urm_Nm_isHit : Cond.code ury_Nm_isHit urb_Nm_isHit 2 (some .boolean) ∈ ub_T := ubw_238
abbrev urb_Nm_goalOf : ByteArray := prog_2_method_7_code
abbrev ury_Nm_goalOf : MethodName := ⟨"UpdateRobot$Names", "goalOf", "(I)I"⟩
abbrev urs_Nm_goalOf : List Cond := .code ury_Nm_goalOf urb_Nm_goalOf 4 (some .int) :: ub_T
abbrev urr_Nm_goalOf : Room := { frames := 1, cells := 0, slots := 0, locals := 23 }
theorem urm_Nm_goalOf : Cond.code ury_Nm_goalOf urb_Nm_goalOf 4 (some .int) ∈ ub_T := ubw_230
abbrev urb_Rb_goal : ByteArray := prog_1_method_8_code
abbrev ury_Rb_goal : MethodName := ⟨"UpdateRobot", "goal", "(I)I"⟩
abbrev urs_Rb_goal : List Cond := .code ury_Rb_goal urb_Rb_goal 2 (some .int) :: ub_T
abbrev urr_Rb_goal : Room := { frames := 2, cells := 0, slots := 0, locals := 46 }
theorem urm_Rb_goal : Cond.code ury_Rb_goal urb_Rb_goal 2 (some .int) ∈ ub_T := ubw_226
abbrev urb_Nm_chiefOf : ByteArray := prog_2_method_9_code
abbrev ury_Nm_chiefOf : MethodName := ⟨"UpdateRobot$Names", "chiefOf", "(I)I"⟩
abbrev urs_Nm_chiefOf : List Cond := .code ury_Nm_chiefOf urb_Nm_chiefOf 3 (some .int) :: ub_T
abbrev urr_Nm_chiefOf : Room := { frames := 0, cells := 0, slots := 0, locals := 0 }
theorem urm_Nm_chiefOf : Cond.code ury_Nm_chiefOf urb_Nm_chiefOf 3 (some .int) ∈ ub_T := ubw_246
abbrev urb_Rb_chief : ByteArray := prog_1_method_9_code
abbrev ury_Rb_chief : MethodName := ⟨"UpdateRobot", "chief", "(I)I"⟩
abbrev urs_Rb_chief : List Cond := .code ury_Rb_chief urb_Rb_chief 2 (some .int) :: ub_T
abbrev urr_Rb_chief : Room := { frames := 1, cells := 0, slots := 0, locals := 22 }
theorem urm_Rb_chief : Cond.code ury_Rb_chief urb_Rb_chief 2 (some .int) ∈ ub_T := ubw_242
abbrev urb_Nm_isChief : ByteArray := prog_2_method_10_code
abbrev ury_Nm_isChief : MethodName := ⟨"UpdateRobot$Names", "isChief", "(I)Z"⟩
abbrev urs_Nm_isChief : List Cond := .code ury_Nm_isChief urb_Nm_isChief 2 (some .boolean) :: ub_T
abbrev urr_Nm_isChief : Room := { frames := 1, cells := 0, slots := 0, locals := 22 }
theorem urm_Nm_isChief : Cond.code ury_Nm_isChief urb_Nm_isChief 2 (some .boolean) ∈ ub_T := ubw_254
abbrev urb_So_setOut : ByteArray := prog_4_method_3_code
abbrev ury_So_setOut : MethodName := ⟨"UpdateRobot$Solver", "setOut", "(LUpdateRobot$Names;I)V"⟩
abbrev urs_So_setOut : List Cond := .code ury_So_setOut urb_So_setOut 4 none :: ub_T
abbrev urr_So_setOut : Room := { frames := 2, cells := 0, slots := 0, locals := 46 }
theorem urm_So_setOut : Cond.code ury_So_setOut urb_So_setOut 4 none ∈ ub_T := ubw_263
abbrev urb_So_lacksAtTarget : ByteArray := prog_4_method_5_code
abbrev ury_So_lacksAtTarget : MethodName := ⟨"UpdateRobot$Solver", "lacksAtTarget", "(LUpdateRobot$Names;I)Z"⟩
abbrev urs_So_lacksAtTarget : List Cond := .code ury_So_lacksAtTarget urb_So_lacksAtTarget 5 (some .boolean) :: ub_T
abbrev urr_So_lacksAtTarget : Room := { frames := 1, cells := 0, slots := 0, locals := 21 }
theorem urm_So_lacksAtTarget : Cond.code ury_So_lacksAtTarget urb_So_lacksAtTarget 5 (some .boolean) ∈ ub_T := ubw_273
abbrev urb_So_firstNeedy : ByteArray := prog_4_method_4_code
abbrev ury_So_firstNeedy : MethodName := ⟨"UpdateRobot$Solver", "firstNeedy", "(LUpdateRobot$Names;)I"⟩
abbrev urs_So_firstNeedy : List Cond := .code ury_So_firstNeedy urb_So_firstNeedy 3 (some .int) :: ub_T
abbrev urr_So_firstNeedy : Room := { frames := 2, cells := 0, slots := 0, locals := 45 }
theorem urm_So_firstNeedy : Cond.code ury_So_firstNeedy urb_So_firstNeedy 3 (some .int) ∈ ub_T := ubw_269
abbrev urb_So_keepRaised : ByteArray := prog_4_method_6_code
abbrev ury_So_keepRaised : MethodName := ⟨"UpdateRobot$Solver", "keepRaised", "(LUpdateRobot$Names;)I"⟩
abbrev urs_So_keepRaised : List Cond := .code ury_So_keepRaised urb_So_keepRaised 4 (some .int) :: ub_T
abbrev urr_So_keepRaised : Room := { frames := 0, cells := 0, slots := 0, locals := 0 }
theorem urm_So_keepRaised : Cond.code ury_So_keepRaised urb_So_keepRaised 4 (some .int) ∈ ub_T := ubw_279
abbrev urb_So_solveUnit : ByteArray := prog_4_method_2_code
abbrev ury_So_solveUnit : MethodName := ⟨"UpdateRobot$Solver", "solveUnit", "(LUpdateRobot$Names;I)I"⟩
abbrev urs_So_solveUnit : List Cond := .code ury_So_solveUnit urb_So_solveUnit 7 (some .int) :: ub_T
abbrev urr_So_solveUnit : Room := { frames := 3, cells := 0, slots := 0, locals := 69 }
theorem urm_So_solveUnit : Cond.code ury_So_solveUnit urb_So_solveUnit 7 (some .int) ∈ ub_T := ubw_259
abbrev urb_Rb_solve : ByteArray := prog_1_method_10_code
abbrev ury_Rb_solve : MethodName := ⟨"UpdateRobot", "solve", "(I)I"⟩
abbrev urs_Rb_solve : List Cond := .code ury_Rb_solve urb_Rb_solve 2 (some .int) :: ub_T
abbrev urr_Rb_solve : Room := { frames := 4, cells := 0, slots := 0, locals := 95 }
theorem urm_Rb_solve : Cond.code ury_Rb_solve urb_Rb_solve 2 (some .int) ∈ ub_T := ubw_250
abbrev urb_Rb_tick : ByteArray := prog_1_method_11_code
abbrev ury_Rb_tick : MethodName := ⟨"UpdateRobot", "tick", "(I)I"⟩
abbrev urs_Rb_tick : List Cond := .code ury_Rb_tick urb_Rb_tick 2 (some .int) :: ub_T
abbrev urr_Rb_tick : Room := { frames := 0, cells := 0, slots := 0, locals := 0 }
theorem urm_Rb_tick : Cond.code ury_Rb_tick urb_Rb_tick 2 (some .int) ∈ ub_T := ubw_283
abbrev urb_Nm_isUnitHit : ByteArray := prog_2_method_11_code
abbrev ury_Nm_isUnitHit : MethodName := ⟨"UpdateRobot$Names", "isUnitHit", "(I)Z"⟩
abbrev urs_Nm_isUnitHit : List Cond := .code ury_Nm_isUnitHit urb_Nm_isUnitHit 3 (some .boolean) :: ub_T
abbrev urr_Nm_isUnitHit : Room := { frames := 1, cells := 0, slots := 0, locals := 22 }
theorem urm_Nm_isUnitHit : Cond.code ury_Nm_isUnitHit urb_Nm_isUnitHit 3 (some .boolean) ∈ ub_T := ubw_297
abbrev urb_Nm_leastEvery : ByteArray := prog_2_method_12_code
abbrev ury_Nm_leastEvery : MethodName := ⟨"UpdateRobot$Names", "leastEvery", "(I)I"⟩
abbrev urs_Nm_leastEvery : List Cond := .code ury_Nm_leastEvery urb_Nm_leastEvery 4 (some .int) :: ub_T
abbrev urr_Nm_leastEvery : Room := { frames := 1, cells := 0, slots := 0, locals := 22 }
theorem urm_Nm_leastEvery : Cond.code ury_Nm_leastEvery urb_Nm_leastEvery 4 (some .int) ∈ ub_T := ubw_301
abbrev urb_Rb_isDue : ByteArray := prog_1_method_19_code
abbrev ury_Rb_isDue : MethodName := ⟨"UpdateRobot", "isDue", "(I)Z"⟩
abbrev urs_Rb_isDue : List Cond := .code ury_Rb_isDue urb_Rb_isDue 3 (some .boolean) :: ub_T
abbrev urr_Rb_isDue : Room := { frames := 2, cells := 0, slots := 0, locals := 45 }
theorem urm_Rb_isDue : Cond.code ury_Rb_isDue urb_Rb_isDue 3 (some .boolean) ∈ ub_T := ubw_293
abbrev urb_Pr_latestOf : ByteArray := prog_3_method_10_code
abbrev ury_Pr_latestOf : MethodName := ⟨"UpdateRobot$Proposals", "latestOf", "(II)I"⟩
abbrev urs_Pr_latestOf : List Cond := .code ury_Pr_latestOf urb_Pr_latestOf 4 (some .int) :: ub_T
abbrev urr_Pr_latestOf : Room := { frames := 0, cells := 0, slots := 0, locals := 0 }
theorem urm_Pr_latestOf : Cond.code ury_Pr_latestOf urb_Pr_latestOf 4 (some .int) ∈ ub_T := ubw_314
abbrev urb_Pr_openOf : ByteArray := prog_3_method_8_code
abbrev ury_Pr_openOf : MethodName := ⟨"UpdateRobot$Proposals", "openOf", "(I)I"⟩
abbrev urs_Pr_openOf : List Cond := .code ury_Pr_openOf urb_Pr_openOf 2 (some .int) :: ub_T
abbrev urr_Pr_openOf : Room := { frames := 1, cells := 0, slots := 0, locals := 23 }
theorem urm_Pr_openOf : Cond.code ury_Pr_openOf urb_Pr_openOf 2 (some .int) ∈ ub_T := ubw_310
abbrev urb_Pr_isKnown : ByteArray := prog_3_method_2_code
abbrev ury_Pr_isKnown : MethodName := ⟨"UpdateRobot$Proposals", "isKnown", "(I)Z"⟩
abbrev urs_Pr_isKnown : List Cond := .code ury_Pr_isKnown urb_Pr_isKnown 2 (some .boolean) :: ub_T
abbrev urr_Pr_isKnown : Room := { frames := 0, cells := 0, slots := 0, locals := 0 }
theorem urm_Pr_isKnown : Cond.code ury_Pr_isKnown urb_Pr_isKnown 2 (some .boolean) ∈ ub_T := ubw_322
abbrev urb_Pr_closeIfAny : ByteArray := prog_3_method_7_code
abbrev ury_Pr_closeIfAny : MethodName := ⟨"UpdateRobot$Proposals", "closeIfAny", "(II)V"⟩
abbrev urs_Pr_closeIfAny : List Cond := .code ury_Pr_closeIfAny urb_Pr_closeIfAny 3 none :: ub_T
abbrev urr_Pr_closeIfAny : Room := { frames := 1, cells := 0, slots := 0, locals := 21 }
theorem urm_Pr_closeIfAny : Cond.code ury_Pr_closeIfAny urb_Pr_closeIfAny 3 none ∈ ub_T := ubw_318
abbrev urb_Pr_raisesJust : ByteArray := prog_3_method_11_code
abbrev ury_Pr_raisesJust : MethodName := ⟨"UpdateRobot$Proposals", "raisesJust", "(I[I)Z"⟩
abbrev urs_Pr_raisesJust : List Cond := .code ury_Pr_raisesJust urb_Pr_raisesJust 4 (some .boolean) :: ub_T
abbrev urr_Pr_raisesJust : Room := { frames := 1, cells := 0, slots := 0, locals := 21 }
theorem urm_Pr_raisesJust : Cond.code ury_Pr_raisesJust urb_Pr_raisesJust 4 (some .boolean) ∈ ub_T := ubw_326
abbrev urb_Pr_latestFailedOf : ByteArray := prog_3_method_9_code
abbrev ury_Pr_latestFailedOf : MethodName := ⟨"UpdateRobot$Proposals", "latestFailedOf", "(I)I"⟩
abbrev urs_Pr_latestFailedOf : List Cond := .code ury_Pr_latestFailedOf urb_Pr_latestFailedOf 2 (some .int) :: ub_T
abbrev urr_Pr_latestFailedOf : Room := { frames := 1, cells := 0, slots := 0, locals := 23 }
theorem urm_Pr_latestFailedOf : Cond.code ury_Pr_latestFailedOf urb_Pr_latestFailedOf 2 (some .int) ∈ ub_T := ubw_330
abbrev urb_Pr_isFull : ByteArray := prog_3_method_4_code
abbrev ury_Pr_isFull : MethodName := ⟨"UpdateRobot$Proposals", "isFull", "()Z"⟩
abbrev urs_Pr_isFull : List Cond := .code ury_Pr_isFull urb_Pr_isFull 1 (some .boolean) :: ub_T
abbrev urr_Pr_isFull : Room := { frames := 0, cells := 0, slots := 0, locals := 0 }
theorem urm_Pr_isFull : Cond.code ury_Pr_isFull urb_Pr_isFull 1 (some .boolean) ∈ ub_T := ubw_338
abbrev urb_Pr_isOpen : ByteArray := prog_3_method_3_code
abbrev ury_Pr_isOpen : MethodName := ⟨"UpdateRobot$Proposals", "isOpen", "(I)Z"⟩
abbrev urs_Pr_isOpen : List Cond := .code ury_Pr_isOpen urb_Pr_isOpen 2 (some .boolean) :: ub_T
abbrev urr_Pr_isOpen : Room := { frames := 1, cells := 0, slots := 0, locals := 21 }
theorem urm_Pr_isOpen : Cond.code ury_Pr_isOpen urb_Pr_isOpen 2 (some .boolean) ∈ ub_T := ubw_346
abbrev urb_Rb_openIn : ByteArray := prog_1_method_22_code
abbrev ury_Rb_openIn : MethodName := ⟨"UpdateRobot", "openIn", "(I)I"⟩
abbrev urs_Rb_openIn : List Cond := .code ury_Rb_openIn urb_Rb_openIn 4 (some .int) :: ub_T
abbrev urr_Rb_openIn : Room := { frames := 2, cells := 0, slots := 0, locals := 42 }
theorem urm_Rb_openIn : Cond.code ury_Rb_openIn urb_Rb_openIn 4 (some .int) ∈ ub_T := ubw_342
abbrev urb_Rb_mayOpen : ByteArray := prog_1_method_21_code
abbrev ury_Rb_mayOpen : MethodName := ⟨"UpdateRobot", "mayOpen", "(II)Z"⟩
abbrev urs_Rb_mayOpen : List Cond := .code ury_Rb_mayOpen urb_Rb_mayOpen 3 (some .boolean) :: ub_T
abbrev urr_Rb_mayOpen : Room := { frames := 3, cells := 0, slots := 0, locals := 65 }
theorem urm_Rb_mayOpen : Cond.code ury_Rb_mayOpen urb_Rb_mayOpen 3 (some .boolean) ∈ ub_T := ubw_334
abbrev urb_Pr_setRaised : ByteArray := prog_3_method_6_code
abbrev ury_Pr_setRaised : MethodName := ⟨"UpdateRobot$Proposals", "setRaised", "(I[I)V"⟩
abbrev urs_Pr_setRaised : List Cond := .code ury_Pr_setRaised urb_Pr_setRaised 4 none :: ub_T
abbrev urr_Pr_setRaised : Room := { frames := 0, cells := 0, slots := 0, locals := 0 }
theorem urm_Pr_setRaised : Cond.code ury_Pr_setRaised urb_Pr_setRaised 4 none ∈ ub_T := ubw_355
abbrev urb_Pr_add : ByteArray := prog_3_method_5_code
abbrev ury_Pr_add : MethodName := ⟨"UpdateRobot$Proposals", "add", "(IIZ[I)V"⟩
abbrev urs_Pr_add : List Cond := .code ury_Pr_add urb_Pr_add 6 none :: ub_T
abbrev urr_Pr_add : Room := { frames := 1, cells := 0, slots := 0, locals := 23 }
theorem urm_Pr_add : Cond.code ury_Pr_add urb_Pr_add 6 none ∈ ub_T := ubw_350
abbrev urb_Rb_review : ByteArray := prog_1_method_20_code
abbrev ury_Rb_review : MethodName := ⟨"UpdateRobot", "review", "(I)V"⟩
abbrev urs_Rb_review : List Cond := .code ury_Rb_review urb_Rb_review 3 none :: ub_T
abbrev urr_Rb_review : Room := { frames := 4, cells := 0, slots := 0, locals := 95 }
theorem urm_Rb_review : Cond.code ury_Rb_review urb_Rb_review 3 none ∈ ub_T := ubw_306
abbrev urb_Rb_run : ByteArray := prog_1_method_12_code
abbrev ury_Rb_run : MethodName := ⟨"UpdateRobot", "run", "()I"⟩
abbrev urs_Rb_run : List Cond := .code ury_Rb_run urb_Rb_run 3 (some .int) :: ub_T
abbrev urr_Rb_run : Room := { frames := 5, cells := 0, slots := 0, locals := 117 }
theorem urm_Rb_run : Cond.code ury_Rb_run urb_Rb_run 3 (some .int) ∈ ub_T := ubw_289
abbrev urb_Rb_waiting : ByteArray := prog_1_method_13_code
abbrev ury_Rb_waiting : MethodName := ⟨"UpdateRobot", "waiting", "()I"⟩
abbrev urs_Rb_waiting : List Cond := .code ury_Rb_waiting urb_Rb_waiting 1 (some .int) :: ub_T
abbrev urr_Rb_waiting : Room := { frames := 0, cells := 0, slots := 0, locals := 0 }
theorem urm_Rb_waiting : Cond.code ury_Rb_waiting urb_Rb_waiting 1 (some .int) ∈ ub_T := ubw_359
abbrev urb_Rb_about : ByteArray := prog_1_method_14_code
abbrev ury_Rb_about : MethodName := ⟨"UpdateRobot", "about", "(II)I"⟩
abbrev urs_Rb_about : List Cond := .code ury_Rb_about urb_Rb_about 3 (some .int) :: ub_T
abbrev urr_Rb_about : Room := { frames := 1, cells := 0, slots := 0, locals := 21 }
theorem urm_Rb_about : Cond.code ury_Rb_about urb_Rb_about 3 (some .int) ∈ ub_T := ubw_363
abbrev urb_Rb_target : ByteArray := prog_1_method_15_code
abbrev ury_Rb_target : MethodName := ⟨"UpdateRobot", "target", "(II)I"⟩
abbrev urs_Rb_target : List Cond := .code ury_Rb_target urb_Rb_target 3 (some .int) :: ub_T
abbrev urr_Rb_target : Room := { frames := 1, cells := 0, slots := 0, locals := 21 }
theorem urm_Rb_target : Cond.code ury_Rb_target urb_Rb_target 3 (some .int) ∈ ub_T := ubw_368
abbrev urb_Nm_moveUp : ByteArray := prog_2_method_13_code
abbrev ury_Nm_moveUp : MethodName := ⟨"UpdateRobot$Names", "moveUp", "([I)I"⟩
abbrev urs_Nm_moveUp : List Cond := .code ury_Nm_moveUp urb_Nm_moveUp 4 (some .int) :: ub_T
abbrev urr_Nm_moveUp : Room := { frames := 0, cells := 0, slots := 0, locals := 0 }
theorem urm_Nm_moveUp : Cond.code ury_Nm_moveUp urb_Nm_moveUp 4 (some .int) ∈ ub_T := ubw_376
abbrev urb_Pr_overlap : ByteArray := prog_3_method_12_code
abbrev ury_Pr_overlap : MethodName := ⟨"UpdateRobot$Proposals", "overlap", "(II)Z"⟩
abbrev urs_Pr_overlap : List Cond := .code ury_Pr_overlap urb_Pr_overlap 4 (some .boolean) :: ub_T
abbrev urr_Pr_overlap : Room := { frames := 0, cells := 0, slots := 0, locals := 0 }
theorem urm_Pr_overlap : Cond.code ury_Pr_overlap urb_Pr_overlap 4 (some .boolean) ∈ ub_T := ubw_384
abbrev urb_Rb_redo : ByteArray := prog_1_method_24_code
abbrev ury_Rb_redo : MethodName := ⟨"UpdateRobot", "redo", "(I)V"⟩
abbrev urs_Rb_redo : List Cond := .code ury_Rb_redo urb_Rb_redo 3 none :: ub_T
abbrev urr_Rb_redo : Room := { frames := 4, cells := 0, slots := 0, locals := 95 }
theorem urm_Rb_redo : Cond.code ury_Rb_redo urb_Rb_redo 3 none ∈ ub_T := ubw_388
abbrev urb_Rb_redoAllTouchedBy : ByteArray := prog_1_method_23_code
abbrev ury_Rb_redoAllTouchedBy : MethodName := ⟨"UpdateRobot", "redoAllTouchedBy", "(I)V"⟩
abbrev urs_Rb_redoAllTouchedBy : List Cond := .code ury_Rb_redoAllTouchedBy urb_Rb_redoAllTouchedBy 3 none :: ub_T
abbrev urr_Rb_redoAllTouchedBy : Room := { frames := 5, cells := 0, slots := 0, locals := 117 }
theorem urm_Rb_redoAllTouchedBy : Cond.code ury_Rb_redoAllTouchedBy urb_Rb_redoAllTouchedBy 3 none ∈ ub_T := ubw_380
abbrev urb_Rb_pass : ByteArray := prog_1_method_16_code
abbrev ury_Rb_pass : MethodName := ⟨"UpdateRobot", "pass", "(IZ)I"⟩
abbrev urs_Rb_pass : List Cond := .code ury_Rb_pass urb_Rb_pass 4 (some .int) :: ub_T
abbrev urr_Rb_pass : Room := { frames := 6, cells := 0, slots := 0, locals := 139 }
theorem urm_Rb_pass : Cond.code ury_Rb_pass urb_Rb_pass 4 (some .int) ∈ ub_T := ubw_372
abbrev urb_Rb_open : ByteArray := prog_1_method_17_code
abbrev ury_Rb_open : MethodName := ⟨"UpdateRobot", "open", "(I)I"⟩
abbrev urs_Rb_open : List Cond := .code ury_Rb_open urb_Rb_open 2 (some .int) :: ub_T
abbrev urr_Rb_open : Room := { frames := 3, cells := 0, slots := 0, locals := 65 }
theorem urm_Rb_open : Cond.code ury_Rb_open urb_Rb_open 2 (some .int) ∈ ub_T := ubw_393
abbrev urb_Nm_init : ByteArray := prog_2_method_1_code
abbrev ury_Nm_init : MethodName := ⟨"UpdateRobot$Names", "<init>", "()V"⟩
abbrev urs_Nm_init : List Cond := .code ury_Nm_init urb_Nm_init 1 none :: ub_T
abbrev urr_Nm_init : Room := { frames := 1, cells := 47, slots := 420, locals := 12 }
theorem urm_Nm_init : Cond.code ury_Nm_init urb_Nm_init 1 none ∈ ub_T := ubw_53
abbrev urb_So_init : ByteArray := prog_4_method_1_code
abbrev ury_So_init : MethodName := ⟨"UpdateRobot$Solver", "<init>", "()V"⟩
abbrev urs_So_init : List Cond := .code ury_So_init urb_So_init 1 none :: ub_T
abbrev urr_So_init : Room := { frames := 1, cells := 2, slots := 24, locals := 12 }
theorem urm_So_init : Cond.code ury_So_init urb_So_init 1 none ∈ ub_T := ubw_113
abbrev urb_Pr_init : ByteArray := prog_3_method_1_code
abbrev ury_Pr_init : MethodName := ⟨"UpdateRobot$Proposals", "<init>", "()V"⟩
abbrev urs_Pr_init : List Cond := .code ury_Pr_init urb_Pr_init 1 none :: ub_T
abbrev urr_Pr_init : Room := { frames := 1, cells := 66, slots := 1080, locals := 12 }
theorem urm_Pr_init : Cond.code ury_Pr_init urb_Pr_init 1 none ∈ ub_T := ubw_127
abbrev urb_Rb_init : ByteArray := prog_1_method_1_code
abbrev ury_Rb_init : MethodName := ⟨"UpdateRobot", "<init>", "(I)V"⟩
abbrev urs_Rb_init : List Cond := .code ury_Rb_init urb_Rb_init 2 none :: ub_T
abbrev urr_Rb_init : Room := { frames := 2, cells := 118, slots := 1545, locals := 32 }
theorem urm_Rb_init : Cond.code ury_Rb_init urb_Rb_init 2 none ∈ ub_T := ubw_39
abbrev rfb_Md_isName : ByteArray := prog_6_method_3_code
abbrev rfy_Md_isName : MethodName := ⟨"UpdateRobotModel", "isName", "(I)Z"⟩
abbrev rfs_Md_isName : List Cond := .code rfy_Md_isName rfb_Md_isName 2 (some .boolean) :: ub_T
abbrev rfr_Md_isName : Room := { frames := 0, cells := 0, slots := 0, locals := 0 }
theorem rfm_Md_isName : Cond.code rfy_Md_isName rfb_Md_isName 2 (some .boolean) ∈ ub_T := ubw_490
abbrev rfb_Md_name : ByteArray := prog_6_method_4_code
abbrev rfy_Md_name : MethodName := ⟨"UpdateRobotModel", "name", "(I)I"⟩
abbrev rfs_Md_name : List Cond := .code rfy_Md_name rfb_Md_name 2 (some .int) :: ub_T
abbrev rfr_Md_name : Room := { frames := 0, cells := 0, slots := 0, locals := 0 }
theorem rfm_Md_name : Cond.code rfy_Md_name rfb_Md_name 2 (some .int) ∈ ub_T := ubw_482
abbrev rfb_Md_newer : ByteArray := prog_6_method_5_code
abbrev rfy_Md_newer : MethodName := ⟨"UpdateRobotModel", "newer", "(II)I"⟩
abbrev rfs_Md_newer : List Cond := .code rfy_Md_newer rfb_Md_newer 3 (some .int) :: ub_T
abbrev rfr_Md_newer : Room := { frames := 1, cells := 0, slots := 0, locals := 21 }
theorem rfm_Md_newer : Cond.code rfy_Md_newer rfb_Md_newer 3 (some .int) ∈ ub_T := ubw_486
abbrev rfb_Md_needs : ByteArray := prog_6_method_6_code
abbrev rfy_Md_needs : MethodName := ⟨"UpdateRobotModel", "needs", "(IIII)Z"⟩
abbrev rfs_Md_needs : List Cond := .code rfy_Md_needs rfb_Md_needs 5 (some .boolean) :: ub_T
abbrev rfr_Md_needs : Room := { frames := 1, cells := 0, slots := 0, locals := 21 }
theorem rfm_Md_needs : Cond.code rfy_Md_needs rfb_Md_needs 5 (some .boolean) ∈ ub_T := ubw_494
abbrev rfb_Md_rule : ByteArray := prog_6_method_7_code
abbrev rfy_Md_rule : MethodName := ⟨"UpdateRobotModel", "rule", "(IIII)Z"⟩
abbrev rfs_Md_rule : List Cond := .code rfy_Md_rule rfb_Md_rule 5 (some .boolean) :: ub_T
abbrev rfr_Md_rule : Room := { frames := 1, cells := 0, slots := 0, locals := 21 }
theorem rfm_Md_rule : Cond.code rfy_Md_rule rfb_Md_rule 5 (some .boolean) ∈ ub_T := ubw_498
abbrev rfb_Md_advise : ByteArray := prog_6_method_8_code
abbrev rfy_Md_advise : MethodName := ⟨"UpdateRobotModel", "advise", "(II)Z"⟩
abbrev rfs_Md_advise : List Cond := .code rfy_Md_advise rfb_Md_advise 3 (some .boolean) :: ub_T
abbrev rfr_Md_advise : Room := { frames := 1, cells := 0, slots := 0, locals := 21 }
theorem rfm_Md_advise : Cond.code rfy_Md_advise rfb_Md_advise 3 (some .boolean) ∈ ub_T := ubw_502
abbrev rfb_Md_has : ByteArray := prog_6_method_9_code
abbrev rfy_Md_has : MethodName := ⟨"UpdateRobotModel", "has", "(I)I"⟩
abbrev rfs_Md_has : List Cond := .code rfy_Md_has rfb_Md_has 2 (some .int) :: ub_T
abbrev rfr_Md_has : Room := { frames := 1, cells := 0, slots := 0, locals := 21 }
theorem rfm_Md_has : Cond.code rfy_Md_has rfb_Md_has 2 (some .int) ∈ ub_T := ubw_506
abbrev rfb_Md_isHit : ByteArray := prog_6_method_10_code
abbrev rfy_Md_isHit : MethodName := ⟨"UpdateRobotModel", "isHit", "(I)Z"⟩
abbrev rfs_Md_isHit : List Cond := .code rfy_Md_isHit rfb_Md_isHit 2 (some .boolean) :: ub_T
abbrev rfr_Md_isHit : Room := { frames := 0, cells := 0, slots := 0, locals := 0 }
theorem rfm_Md_isHit : Cond.code rfy_Md_isHit rfb_Md_isHit 2 (some .boolean) ∈ ub_T := ubw_522
abbrev rfb_Md_isAllowed : ByteArray := prog_6_method_11_code
abbrev rfy_Md_isAllowed : MethodName := ⟨"UpdateRobotModel", "isAllowed", "(II)Z"⟩
abbrev rfs_Md_isAllowed : List Cond := .code rfy_Md_isAllowed rfb_Md_isAllowed 5 (some .boolean) :: ub_T
abbrev rfr_Md_isAllowed : Room := { frames := 0, cells := 0, slots := 0, locals := 0 }
theorem rfm_Md_isAllowed : Cond.code rfy_Md_isAllowed rfb_Md_isAllowed 5 (some .boolean) ∈ ub_T := ubw_518
abbrev rfb_Md_goalOf : ByteArray := prog_6_method_12_code
abbrev rfy_Md_goalOf : MethodName := ⟨"UpdateRobotModel", "goalOf", "(I)I"⟩
abbrev rfs_Md_goalOf : List Cond := .code rfy_Md_goalOf rfb_Md_goalOf 3 (some .int) :: ub_T
abbrev rfr_Md_goalOf : Room := { frames := 1, cells := 0, slots := 0, locals := 24 }
theorem rfm_Md_goalOf : Cond.code rfy_Md_goalOf rfb_Md_goalOf 3 (some .int) ∈ ub_T := ubw_514
abbrev rfb_Md_goal : ByteArray := prog_6_method_13_code
abbrev rfy_Md_goal : MethodName := ⟨"UpdateRobotModel", "goal", "(I)I"⟩
abbrev rfs_Md_goal : List Cond := .code rfy_Md_goal rfb_Md_goal 2 (some .int) :: ub_T
abbrev rfr_Md_goal : Room := { frames := 2, cells := 0, slots := 0, locals := 46 }
theorem rfm_Md_goal : Cond.code rfy_Md_goal rfb_Md_goal 2 (some .int) ∈ ub_T := ubw_510
abbrev rfb_Md_areOne : ByteArray := prog_6_method_14_code
abbrev rfy_Md_areOne : MethodName := ⟨"UpdateRobotModel", "areOne", "(II)Z"⟩
abbrev rfs_Md_areOne : List Cond := .code rfy_Md_areOne rfb_Md_areOne 3 (some .boolean) :: ub_T
abbrev rfr_Md_areOne : Room := { frames := 0, cells := 0, slots := 0, locals := 0 }
theorem rfm_Md_areOne : Cond.code rfy_Md_areOne rfb_Md_areOne 3 (some .boolean) ∈ ub_T := ubw_534
abbrev rfb_Md_chiefOf : ByteArray := prog_6_method_15_code
abbrev rfy_Md_chiefOf : MethodName := ⟨"UpdateRobotModel", "chiefOf", "(I)I"⟩
abbrev rfs_Md_chiefOf : List Cond := .code rfy_Md_chiefOf rfb_Md_chiefOf 3 (some .int) :: ub_T
abbrev rfr_Md_chiefOf : Room := { frames := 1, cells := 0, slots := 0, locals := 22 }
theorem rfm_Md_chiefOf : Cond.code rfy_Md_chiefOf rfb_Md_chiefOf 3 (some .int) ∈ ub_T := ubw_530
abbrev rfb_Md_chief : ByteArray := prog_6_method_16_code
abbrev rfy_Md_chief : MethodName := ⟨"UpdateRobotModel", "chief", "(I)I"⟩
abbrev rfs_Md_chief : List Cond := .code rfy_Md_chief rfb_Md_chief 2 (some .int) :: ub_T
abbrev rfr_Md_chief : Room := { frames := 2, cells := 0, slots := 0, locals := 44 }
theorem rfm_Md_chief : Cond.code rfy_Md_chief rfb_Md_chief 2 (some .int) ∈ ub_T := ubw_526
abbrev rfb_Md_wanting : ByteArray := prog_6_method_17_code
abbrev rfy_Md_wanting : MethodName := ⟨"UpdateRobotModel", "wanting", "()I"⟩
abbrev rfs_Md_wanting : List Cond := .code rfy_Md_wanting rfb_Md_wanting 3 (some .int) :: ub_T
abbrev rfr_Md_wanting : Room := { frames := 0, cells := 0, slots := 0, locals := 0 }
theorem rfm_Md_wanting : Cond.code rfy_Md_wanting rfb_Md_wanting 3 (some .int) ∈ ub_T := ubw_546
abbrev rfb_Md_find : ByteArray := prog_6_method_18_code
abbrev rfy_Md_find : MethodName := ⟨"UpdateRobotModel", "find", "(I)I"⟩
abbrev rfs_Md_find : List Cond := .code rfy_Md_find rfb_Md_find 4 (some .int) :: ub_T
abbrev rfr_Md_find : Room := { frames := 2, cells := 0, slots := 0, locals := 46 }
theorem rfm_Md_find : Cond.code rfy_Md_find rfb_Md_find 4 (some .int) ∈ ub_T := ubw_542
abbrev rfb_Md_solve : ByteArray := prog_6_method_19_code
abbrev rfy_Md_solve : MethodName := ⟨"UpdateRobotModel", "solve", "(I)I"⟩
abbrev rfs_Md_solve : List Cond := .code rfy_Md_solve rfb_Md_solve 3 (some .int) :: ub_T
abbrev rfr_Md_solve : Room := { frames := 3, cells := 0, slots := 0, locals := 69 }
theorem rfm_Md_solve : Cond.code rfy_Md_solve rfb_Md_solve 3 (some .int) ∈ ub_T := ubw_538
abbrev rfb_Md_tick : ByteArray := prog_6_method_20_code
abbrev rfy_Md_tick : MethodName := ⟨"UpdateRobotModel", "tick", "(I)I"⟩
abbrev rfs_Md_tick : List Cond := .code rfy_Md_tick rfb_Md_tick 2 (some .int) :: ub_T
abbrev rfr_Md_tick : Room := { frames := 0, cells := 0, slots := 0, locals := 0 }
theorem rfm_Md_tick : Cond.code rfy_Md_tick rfb_Md_tick 2 (some .int) ∈ ub_T := ubw_550
abbrev rfb_Md_raised : ByteArray := prog_6_method_21_code
abbrev rfy_Md_raised : MethodName := ⟨"UpdateRobotModel", "raised", "(I)I"⟩
abbrev rfs_Md_raised : List Cond := .code rfy_Md_raised rfb_Md_raised 2 (some .int) :: ub_T
abbrev rfr_Md_raised : Room := { frames := 0, cells := 0, slots := 0, locals := 0 }
theorem rfm_Md_raised : Cond.code rfy_Md_raised rfb_Md_raised 2 (some .int) ∈ ub_T := ubw_576
abbrev rfb_Md_isSame : ByteArray := prog_6_method_22_code
abbrev rfy_Md_isSame : MethodName := ⟨"UpdateRobotModel", "isSame", "(I)Z"⟩
abbrev rfs_Md_isSame : List Cond := .code rfy_Md_isSame rfb_Md_isSame 4 (some .boolean) :: ub_T
abbrev rfr_Md_isSame : Room := { frames := 1, cells := 0, slots := 0, locals := 21 }
theorem rfm_Md_isSame : Cond.code rfy_Md_isSame rfb_Md_isSame 4 (some .boolean) ∈ ub_T := ubw_572
abbrev rfb_Md_fill : ByteArray := prog_6_method_23_code
abbrev rfy_Md_fill : MethodName := ⟨"UpdateRobotModel", "fill", "(I)V"⟩
abbrev rfs_Md_fill : List Cond := .code rfy_Md_fill rfb_Md_fill 3 none :: ub_T
abbrev rfr_Md_fill : Room := { frames := 1, cells := 0, slots := 0, locals := 21 }
theorem rfm_Md_fill : Cond.code rfy_Md_fill rfb_Md_fill 3 none ∈ ub_T := ubw_588
abbrev rfb_Md_latest : ByteArray := prog_6_method_24_code
abbrev rfy_Md_latest : MethodName := ⟨"UpdateRobotModel", "latest", "(II)I"⟩
abbrev rfs_Md_latest : List Cond := .code rfy_Md_latest rfb_Md_latest 5 (some .int) :: ub_T
abbrev rfr_Md_latest : Room := { frames := 0, cells := 0, slots := 0, locals := 0 }
theorem rfm_Md_latest : Cond.code rfy_Md_latest rfb_Md_latest 5 (some .int) ∈ ub_T := ubw_568
abbrev rfb_Md_opens : ByteArray := prog_6_method_25_code
abbrev rfy_Md_opens : MethodName := ⟨"UpdateRobotModel", "opens", "(I)I"⟩
abbrev rfs_Md_opens : List Cond := .code rfy_Md_opens rfb_Md_opens 4 (some .int) :: ub_T
abbrev rfr_Md_opens : Room := { frames := 0, cells := 0, slots := 0, locals := 0 }
theorem rfm_Md_opens : Cond.code rfy_Md_opens rfb_Md_opens 4 (some .int) ∈ ub_T := ubw_584
abbrev rfb_Md_isDue : ByteArray := prog_6_method_26_code
abbrev rfy_Md_isDue : MethodName := ⟨"UpdateRobotModel", "isDue", "(I)Z"⟩
abbrev rfs_Md_isDue : List Cond := .code rfy_Md_isDue rfb_Md_isDue 5 (some .boolean) :: ub_T
abbrev rfr_Md_isDue : Room := { frames := 1, cells := 0, slots := 0, locals := 22 }
theorem rfm_Md_isDue : Cond.code rfy_Md_isDue rfb_Md_isDue 5 (some .boolean) ∈ ub_T := ubw_560
abbrev rfb_Md_isUnitHit : ByteArray := prog_6_method_27_code
abbrev rfy_Md_isUnitHit : MethodName := ⟨"UpdateRobotModel", "isUnitHit", "(I)Z"⟩
abbrev rfs_Md_isUnitHit : List Cond := .code rfy_Md_isUnitHit rfb_Md_isUnitHit 4 (some .boolean) :: ub_T
abbrev rfr_Md_isUnitHit : Room := { frames := 1, cells := 0, slots := 0, locals := 22 }
theorem rfm_Md_isUnitHit : Cond.code rfy_Md_isUnitHit rfb_Md_isUnitHit 4 (some .boolean) ∈ ub_T := ubw_580
abbrev rfb_Md_propose : ByteArray := prog_6_method_28_code
abbrev rfy_Md_propose : MethodName := ⟨"UpdateRobotModel", "propose", "(I)I"⟩
abbrev rfs_Md_propose : List Cond := .code rfy_Md_propose rfb_Md_propose 6 (some .int) :: ub_T
abbrev rfr_Md_propose : Room := { frames := 3, cells := 0, slots := 0, locals := 69 }
theorem rfm_Md_propose : Cond.code rfy_Md_propose rfb_Md_propose 6 (some .int) ∈ ub_T := ubw_564
abbrev rfb_Md_run : ByteArray := prog_6_method_29_code
abbrev rfy_Md_run : MethodName := ⟨"UpdateRobotModel", "run", "()I"⟩
abbrev rfs_Md_run : List Cond := .code rfy_Md_run rfb_Md_run 4 (some .int) :: ub_T
abbrev rfr_Md_run : Room := { frames := 4, cells := 0, slots := 0, locals := 94 }
theorem rfm_Md_run : Cond.code rfy_Md_run rfb_Md_run 4 (some .int) ∈ ub_T := ubw_556
abbrev rfb_Md_waiting : ByteArray := prog_6_method_30_code
abbrev rfy_Md_waiting : MethodName := ⟨"UpdateRobotModel", "waiting", "()I"⟩
abbrev rfs_Md_waiting : List Cond := .code rfy_Md_waiting rfb_Md_waiting 1 (some .int) :: ub_T
abbrev rfr_Md_waiting : Room := { frames := 0, cells := 0, slots := 0, locals := 0 }
theorem rfm_Md_waiting : Cond.code rfy_Md_waiting rfb_Md_waiting 1 (some .int) ∈ ub_T := ubw_592
abbrev rfb_Md_about : ByteArray := prog_6_method_31_code
abbrev rfy_Md_about : MethodName := ⟨"UpdateRobotModel", "about", "(II)I"⟩
abbrev rfs_Md_about : List Cond := .code rfy_Md_about rfb_Md_about 3 (some .int) :: ub_T
abbrev rfr_Md_about : Room := { frames := 0, cells := 0, slots := 0, locals := 0 }
theorem rfm_Md_about : Cond.code rfy_Md_about rfb_Md_about 3 (some .int) ∈ ub_T := ubw_596
abbrev rfb_Md_target : ByteArray := prog_6_method_32_code
abbrev rfy_Md_target : MethodName := ⟨"UpdateRobotModel", "target", "(II)I"⟩
abbrev rfs_Md_target : List Cond := .code rfy_Md_target rfb_Md_target 3 (some .int) :: ub_T
abbrev rfr_Md_target : Room := { frames := 1, cells := 0, slots := 0, locals := 21 }
theorem rfm_Md_target : Cond.code rfy_Md_target rfb_Md_target 3 (some .int) ∈ ub_T := ubw_600
abbrev rfb_Md_redo : ByteArray := prog_6_method_33_code
abbrev rfy_Md_redo : MethodName := ⟨"UpdateRobotModel", "redo", "(I)V"⟩
abbrev rfs_Md_redo : List Cond := .code rfy_Md_redo rfb_Md_redo 3 none :: ub_T
abbrev rfr_Md_redo : Room := { frames := 3, cells := 0, slots := 0, locals := 69 }
theorem rfm_Md_redo : Cond.code rfy_Md_redo rfb_Md_redo 3 none ∈ ub_T := ubw_608
abbrev rfb_Md_pass : ByteArray := prog_6_method_34_code
abbrev rfy_Md_pass : MethodName := ⟨"UpdateRobotModel", "pass", "(IZ)I"⟩
abbrev rfs_Md_pass : List Cond := .code rfy_Md_pass rfb_Md_pass 8 (some .int) :: ub_T
abbrev rfr_Md_pass : Room := { frames := 4, cells := 0, slots := 0, locals := 91 }
theorem rfm_Md_pass : Cond.code rfy_Md_pass rfb_Md_pass 8 (some .int) ∈ ub_T := ubw_604
abbrev rfb_Md_open : ByteArray := prog_6_method_35_code
abbrev rfy_Md_open : MethodName := ⟨"UpdateRobotModel", "open", "(I)I"⟩
abbrev rfs_Md_open : List Cond := .code rfy_Md_open rfb_Md_open 2 (some .int) :: ub_T
abbrev rfr_Md_open : Room := { frames := 1, cells := 0, slots := 0, locals := 23 }
theorem rfm_Md_open : Cond.code rfy_Md_open rfb_Md_open 2 (some .int) ∈ ub_T := ubw_612
abbrev rfb_Md_init : ByteArray := prog_6_method_1_code
abbrev rfy_Md_init : MethodName := ⟨"UpdateRobotModel", "<init>", "(I)V"⟩
abbrev rfs_Md_init : List Cond := .code rfy_Md_init rfb_Md_init 2 none :: ub_T
abbrev rfr_Md_init : Room := { frames := 1, cells := 18, slots := 1416, locals := 12 }
theorem rfm_Md_init : Cond.code rfy_Md_init rfb_Md_init 2 none ∈ ub_T := ubw_401
