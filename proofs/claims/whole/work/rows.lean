section
-- ===== PART A: goes FIRST, ahead of the names: the tables' words, and 'selects' of the private methods out of them =====
/-- a private method of a class that the tables say can be made, by its rows of tables_1 -/
def lw_okq (q : MethodName × Nat) : Prop := (q.1.cls ≠ "java/lang/invoke/MethodHandle" ∧ q.1.cls ≠ "java/lang/invoke/VarHandle") ∧ Cond.instantiable q.1.cls q.2 ∈ tables_1 ∧ Cond.privateMethod q.1 ∈ tables_1 ∧ Cond.instanceMethod q.1 ∈ tables_1
theorem lw_p0 : lw_okq (⟨"BuildCounter", "keep", "(LBuildCounter$Thing;)I"⟩, 5) := ⟨⟨by decide +kernel, by decide +kernel⟩, List.mem_of_getElem? (i := 9) (by decide +kernel), List.mem_of_getElem? (i := 161) (by decide +kernel), List.mem_of_getElem? (i := 162) (by decide +kernel)⟩
theorem lw_p1 : lw_okq (⟨"BuildCounter", "thingAt", "(I)LBuildCounter$Thing;"⟩, 5) := ⟨⟨by decide +kernel, by decide +kernel⟩, List.mem_of_getElem? (i := 9) (by decide +kernel), List.mem_of_getElem? (i := 165) (by decide +kernel), List.mem_of_getElem? (i := 166) (by decide +kernel)⟩
theorem lw_p2 : lw_okq (⟨"BuildCounter", "hasLostItsPlace", "(LBuildCounter$Thing;)Z"⟩, 5) := ⟨⟨by decide +kernel, by decide +kernel⟩, List.mem_of_getElem? (i := 9) (by decide +kernel), List.mem_of_getElem? (i := 177) (by decide +kernel), List.mem_of_getElem? (i := 178) (by decide +kernel)⟩
theorem lw_p3 : lw_okq (⟨"BuildCounter", "lyingJustIn", "(I)I"⟩, 5) := ⟨⟨by decide +kernel, by decide +kernel⟩, List.mem_of_getElem? (i := 9) (by decide +kernel), List.mem_of_getElem? (i := 189) (by decide +kernel), List.mem_of_getElem? (i := 190) (by decide +kernel)⟩
theorem lw_p4 : lw_okq (⟨"BuildCounter", "partAt", "(I)LBuildCounter$Part;"⟩, 5) := ⟨⟨by decide +kernel, by decide +kernel⟩, List.mem_of_getElem? (i := 9) (by decide +kernel), List.mem_of_getElem? (i := 277) (by decide +kernel), List.mem_of_getElem? (i := 278) (by decide +kernel)⟩
theorem lw_p5 : lw_okq (⟨"BuildCounter", "tell", "(IIIJ)J"⟩, 5) := ⟨⟨by decide +kernel, by decide +kernel⟩, List.mem_of_getElem? (i := 9) (by decide +kernel), List.mem_of_getElem? (i := 294) (by decide +kernel), List.mem_of_getElem? (i := 295) (by decide +kernel)⟩
theorem lw_p6 : lw_okq (⟨"BuildCounter$Told", "addToCounts", "(I)V"⟩, 10) := ⟨⟨by decide +kernel, by decide +kernel⟩, List.mem_of_getElem? (i := 38) (by decide +kernel), List.mem_of_getElem? (i := 302) (by decide +kernel), List.mem_of_getElem? (i := 303) (by decide +kernel)⟩
theorem lw_p7 : lw_okq (⟨"BuildCounter", "refusalOf", "(LBuildCounter$Part;LBuildCounter$Build;J)J"⟩, 5) := ⟨⟨by decide +kernel, by decide +kernel⟩, List.mem_of_getElem? (i := 9) (by decide +kernel), List.mem_of_getElem? (i := 306) (by decide +kernel), List.mem_of_getElem? (i := 307) (by decide +kernel)⟩
theorem lw_p8 : lw_okq (⟨"BuildCounter", "houseAt", "(I)LBuildCounter$Thing;"⟩, 5) := ⟨⟨by decide +kernel, by decide +kernel⟩, List.mem_of_getElem? (i := 9) (by decide +kernel), List.mem_of_getElem? (i := 344) (by decide +kernel), List.mem_of_getElem? (i := 345) (by decide +kernel)⟩
theorem lw_p9 : lw_okq (⟨"BuildCounter", "leastCallFor", "(I)I"⟩, 5) := ⟨⟨by decide +kernel, by decide +kernel⟩, List.mem_of_getElem? (i := 9) (by decide +kernel), List.mem_of_getElem? (i := 360) (by decide +kernel), List.mem_of_getElem? (i := 361) (by decide +kernel)⟩
theorem lw_p10 : lw_okq (⟨"BuildCounter", "goes", "(IIJ)Z"⟩, 5) := ⟨⟨by decide +kernel, by decide +kernel⟩, List.mem_of_getElem? (i := 9) (by decide +kernel), List.mem_of_getElem? (i := 367) (by decide +kernel), List.mem_of_getElem? (i := 368) (by decide +kernel)⟩
theorem lw_p11 : lw_okq (⟨"BuildCounter", "letWaitingGo", "(LBuildCounter$Build;)V"⟩, 5) := ⟨⟨by decide +kernel, by decide +kernel⟩, List.mem_of_getElem? (i := 9) (by decide +kernel), List.mem_of_getElem? (i := 371) (by decide +kernel), List.mem_of_getElem? (i := 372) (by decide +kernel)⟩
theorem lw_p12 : lw_okq (⟨"BuildCounterModel", "isThing", "(I)Z"⟩, 30) := ⟨⟨by decide +kernel, by decide +kernel⟩, List.mem_of_getElem? (i := 395) (by decide +kernel), List.mem_of_getElem? (i := 500) (by decide +kernel), List.mem_of_getElem? (i := 501) (by decide +kernel)⟩
theorem lw_p13 : lw_okq (⟨"BuildCounterModel", "isDefined", "(I)Z"⟩, 30) := ⟨⟨by decide +kernel, by decide +kernel⟩, List.mem_of_getElem? (i := 395) (by decide +kernel), List.mem_of_getElem? (i := 535) (by decide +kernel), List.mem_of_getElem? (i := 536) (by decide +kernel)⟩
theorem lw_p14 : lw_okq (⟨"BuildCounterModel", "refusal", "(IIJ)I"⟩, 30) := ⟨⟨by decide +kernel, by decide +kernel⟩, List.mem_of_getElem? (i := 395) (by decide +kernel), List.mem_of_getElem? (i := 547) (by decide +kernel), List.mem_of_getElem? (i := 548) (by decide +kernel)⟩
theorem lw_p15 : lw_okq (⟨"BuildCounterModel", "tell", "(IIIJ)V"⟩, 30) := ⟨⟨by decide +kernel, by decide +kernel⟩, List.mem_of_getElem? (i := 395) (by decide +kernel), List.mem_of_getElem? (i := 551) (by decide +kernel), List.mem_of_getElem? (i := 552) (by decide +kernel)⟩
def lw_privs_1 : List (MethodName × Nat) := [(⟨"BuildCounter", "keep", "(LBuildCounter$Thing;)I"⟩, 5), (⟨"BuildCounter", "thingAt", "(I)LBuildCounter$Thing;"⟩, 5), (⟨"BuildCounter", "hasLostItsPlace", "(LBuildCounter$Thing;)Z"⟩, 5), (⟨"BuildCounter", "lyingJustIn", "(I)I"⟩, 5), (⟨"BuildCounter", "partAt", "(I)LBuildCounter$Part;"⟩, 5), (⟨"BuildCounter", "tell", "(IIIJ)J"⟩, 5), (⟨"BuildCounter$Told", "addToCounts", "(I)V"⟩, 10), (⟨"BuildCounter", "refusalOf", "(LBuildCounter$Part;LBuildCounter$Build;J)J"⟩, 5), (⟨"BuildCounter", "houseAt", "(I)LBuildCounter$Thing;"⟩, 5), (⟨"BuildCounter", "leastCallFor", "(I)I"⟩, 5), (⟨"BuildCounter", "goes", "(IIJ)Z"⟩, 5), (⟨"BuildCounter", "letWaitingGo", "(LBuildCounter$Build;)V"⟩, 5), (⟨"BuildCounterModel", "isThing", "(I)Z"⟩, 30), (⟨"BuildCounterModel", "isDefined", "(I)Z"⟩, 30), (⟨"BuildCounterModel", "refusal", "(IIJ)I"⟩, 30), (⟨"BuildCounterModel", "tell", "(IIIJ)V"⟩, 30)]
theorem lw_r1 : ∀ q ∈ lw_privs_1, lw_okq q := List.forall_mem_cons.mpr ⟨lw_p0, List.forall_mem_cons.mpr ⟨lw_p1, List.forall_mem_cons.mpr ⟨lw_p2, List.forall_mem_cons.mpr ⟨lw_p3, List.forall_mem_cons.mpr ⟨lw_p4, List.forall_mem_cons.mpr ⟨lw_p5, List.forall_mem_cons.mpr ⟨lw_p6, List.forall_mem_cons.mpr ⟨lw_p7, List.forall_mem_cons.mpr ⟨lw_p8, List.forall_mem_cons.mpr ⟨lw_p9, List.forall_mem_cons.mpr ⟨lw_p10, List.forall_mem_cons.mpr ⟨lw_p11, List.forall_mem_cons.mpr ⟨lw_p12, List.forall_mem_cons.mpr ⟨lw_p13, List.forall_mem_cons.mpr ⟨lw_p14, List.forall_mem_cons.mpr ⟨lw_p15, fun _ h => absurd h List.not_mem_nil⟩⟩⟩⟩⟩⟩⟩⟩⟩⟩⟩⟩⟩⟩⟩⟩
theorem lw_p16 : lw_okq (⟨"BuildCounterModel", "sumOf", "(I)J"⟩, 30) := ⟨⟨by decide +kernel, by decide +kernel⟩, List.mem_of_getElem? (i := 395) (by decide +kernel), List.mem_of_getElem? (i := 555) (by decide +kernel), List.mem_of_getElem? (i := 556) (by decide +kernel)⟩
theorem lw_p17 : lw_okq (⟨"BuildCounterModel", "go", "(IJ)V"⟩, 30) := ⟨⟨by decide +kernel, by decide +kernel⟩, List.mem_of_getElem? (i := 395) (by decide +kernel), List.mem_of_getElem? (i := 561) (by decide +kernel), List.mem_of_getElem? (i := 562) (by decide +kernel)⟩
theorem lw_p18 : lw_okq (⟨"BuildCounterModel", "isHouse", "(I)Z"⟩, 30) := ⟨⟨by decide +kernel, by decide +kernel⟩, List.mem_of_getElem? (i := 395) (by decide +kernel), List.mem_of_getElem? (i := 570) (by decide +kernel), List.mem_of_getElem? (i := 571) (by decide +kernel)⟩
theorem lw_p19 : lw_okq (⟨"BuildCounterModel", "leastFor", "(I)I"⟩, 30) := ⟨⟨by decide +kernel, by decide +kernel⟩, List.mem_of_getElem? (i := 395) (by decide +kernel), List.mem_of_getElem? (i := 578) (by decide +kernel), List.mem_of_getElem? (i := 579) (by decide +kernel)⟩
theorem lw_p20 : lw_okq (⟨"BuildCounterModel", "isTold", "(I)Z"⟩, 30) := ⟨⟨by decide +kernel, by decide +kernel⟩, List.mem_of_getElem? (i := 395) (by decide +kernel), List.mem_of_getElem? (i := 590) (by decide +kernel), List.mem_of_getElem? (i := 591) (by decide +kernel)⟩
theorem lw_p21 : lw_okq (⟨"BuildCounterModel", "placeOf", "(I)I"⟩, 30) := ⟨⟨by decide +kernel, by decide +kernel⟩, List.mem_of_getElem? (i := 395) (by decide +kernel), List.mem_of_getElem? (i := 594) (by decide +kernel), List.mem_of_getElem? (i := 595) (by decide +kernel)⟩
def lw_privs_2 : List (MethodName × Nat) := [(⟨"BuildCounterModel", "sumOf", "(I)J"⟩, 30), (⟨"BuildCounterModel", "go", "(IJ)V"⟩, 30), (⟨"BuildCounterModel", "isHouse", "(I)Z"⟩, 30), (⟨"BuildCounterModel", "leastFor", "(I)I"⟩, 30), (⟨"BuildCounterModel", "isTold", "(I)Z"⟩, 30), (⟨"BuildCounterModel", "placeOf", "(I)I"⟩, 30)]
theorem lw_r2 : ∀ q ∈ lw_privs_2, lw_okq q := List.forall_mem_cons.mpr ⟨lw_p16, List.forall_mem_cons.mpr ⟨lw_p17, List.forall_mem_cons.mpr ⟨lw_p18, List.forall_mem_cons.mpr ⟨lw_p19, List.forall_mem_cons.mpr ⟨lw_p20, List.forall_mem_cons.mpr ⟨lw_p21, fun _ h => absurd h List.not_mem_nil⟩⟩⟩⟩⟩⟩
def lw_privs : List (MethodName × Nat) := lw_privs_1 ++ (lw_privs_2)
def lw_tbl : List Cond := k2_sels lw_privs ++ tables_1
theorem lw_privs_ok : ∀ q ∈ lw_privs, lw_okq q := by
  show ∀ q ∈ lw_privs_1 ++ (lw_privs_2), lw_okq q
  exact List.forall_mem_append.mpr ⟨lw_r1, lw_r2⟩
end
section
def R_X : String := "BuildCounter"
def F_X : u_T := fun k => match k with
  | 0 => ("BuildCounter", "things", "[LBuildCounter$Thing;", true)
  | 1 => ("BuildCounter", "made", "I", false)
  | 2 => ("BuildCounter", "collection", "LBuildCounter$Collected;", true)
  | 3 => ("BuildCounter", "parts", "[LBuildCounter$Part;", true)
  | _ => ("BuildCounter", "history", "LBuildCounter$Told;", true)
def ft_X : Nat → FieldType := fun k => match k with
  | 0 => (.array (.object "BuildCounter$Thing"))
  | 1 => .int
  | 2 => (.object "BuildCounter$Collected")
  | 3 => (.array (.object "BuildCounter$Part"))
  | _ => (.object "BuildCounter$Told")
theorem n_X : ∀ a, a < 5 → ∀ b, b < 5 → a ≠ b → (F_X a).2.1 ≠ (F_X b).2.1 := by decide +kernel
theorem ft_X_ok : ∀ k, k < 5 → parseFieldDescriptor (F_X k).2.2.1 = some (ft_X k) := by decide +kernel
theorem i0_X : ∀ w ∈ u_ws R_X F_X 5, w ∈ lw_tbl := by decide +kernel
theorem g0_X : ∀ w ∈ u_ws R_X F_X 5, goodWord w = true := by decide +kernel
def R_B : String := "BuildCounter$Build"
def F_B : u_T := fun k => match k with
  | 0 => ("BuildCounter$Build", "turnsLeft", "I", false)
  | 1 => ("BuildCounter$Build", "turnsDone", "I", false)
  | 2 => ("BuildCounter$Build", "waiting", "I", false)
  | 3 => ("BuildCounter$Build", "calls", "[I", true)
  | 4 => ("BuildCounter$Build", "numbers", "[I", true)
  | _ => ("BuildCounter$Build", "ws", "[J", true)
def ft_B : Nat → FieldType := fun k => match k with
  | 0 => .int
  | 1 => .int
  | 2 => .int
  | 3 => (.array .int)
  | 4 => (.array .int)
  | _ => (.array .long)
theorem n_B : ∀ a, a < 6 → ∀ b, b < 6 → a ≠ b → (F_B a).2.1 ≠ (F_B b).2.1 := by decide +kernel
theorem ft_B_ok : ∀ k, k < 6 → parseFieldDescriptor (F_B k).2.2.1 = some (ft_B k) := by decide +kernel
theorem i0_B : ∀ w ∈ u_ws R_B F_B 6, w ∈ lw_tbl := by decide +kernel
theorem g0_B : ∀ w ∈ u_ws R_B F_B 6, goodWord w = true := by decide +kernel
def R_C : String := "BuildCounter$Collected"
def F_C : u_T := fun k => match k with
  | 0 => ("BuildCounter$Collected", "sizes", "[I", true)
  | _ => ("BuildCounter$Collected", "sums", "[J", true)
def ft_C : Nat → FieldType := fun k => match k with
  | 0 => (.array .int)
  | _ => (.array .long)
theorem n_C : ∀ a, a < 2 → ∀ b, b < 2 → a ≠ b → (F_C a).2.1 ≠ (F_C b).2.1 := by decide +kernel
theorem ft_C_ok : ∀ k, k < 2 → parseFieldDescriptor (F_C k).2.2.1 = some (ft_C k) := by decide +kernel
theorem i0_C : ∀ w ∈ u_ws R_C F_C 2, w ∈ lw_tbl := by decide +kernel
theorem g0_C : ∀ w ∈ u_ws R_C F_C 2, goodWord w = true := by decide +kernel
def R_P : String := "BuildCounter$Part"
def F_P : u_T := fun k => match k with
  | 0 => ("BuildCounter$Part", "kind", "I", false)
  | 1 => ("BuildCounter$Part", "wants", "I", false)
  | 2 => ("BuildCounter$Part", "low", "J", false)
  | 3 => ("BuildCounter$Part", "high", "J", false)
  | 4 => ("BuildCounter$Part", "table", "[J", true)
  | 5 => ("BuildCounter$Part", "answers", "I", false)
  | 6 => ("BuildCounter$Part", "next", "I", false)
  | 7 => ("BuildCounter$Part", "failureSort", "I", false)
  | _ => ("BuildCounter$Part", "failuresDue", "I", false)
def ft_P : Nat → FieldType := fun k => match k with
  | 0 => .int
  | 1 => .int
  | 2 => .long
  | 3 => .long
  | 4 => (.array .long)
  | 5 => .int
  | 6 => .int
  | 7 => .int
  | _ => .int
theorem n_P : ∀ a, a < 9 → ∀ b, b < 9 → a ≠ b → (F_P a).2.1 ≠ (F_P b).2.1 := by decide +kernel
theorem ft_P_ok : ∀ k, k < 9 → parseFieldDescriptor (F_P k).2.2.1 = some (ft_P k) := by decide +kernel
theorem i0_P : ∀ w ∈ u_ws R_P F_P 9, w ∈ lw_tbl := by decide +kernel
theorem g0_P : ∀ w ∈ u_ws R_P F_P 9, goodWord w = true := by decide +kernel
def R_T : String := "BuildCounter$Thing"
def F_T : u_T := fun k => match k with
  | 0 => ("BuildCounter$Thing", "kind", "I", true)
  | 1 => ("BuildCounter$Thing", "in", "I", true)
  | 2 => ("BuildCounter$Thing", "house", "I", true)
  | _ => ("BuildCounter$Thing", "build", "LBuildCounter$Build;", true)
def ft_T : Nat → FieldType := fun k => match k with
  | 0 => .int
  | 1 => .int
  | 2 => .int
  | _ => (.object "BuildCounter$Build")
theorem n_T : ∀ a, a < 4 → ∀ b, b < 4 → a ≠ b → (F_T a).2.1 ≠ (F_T b).2.1 := by decide +kernel
theorem ft_T_ok : ∀ k, k < 4 → parseFieldDescriptor (F_T k).2.2.1 = some (ft_T k) := by decide +kernel
theorem i0_T : ∀ w ∈ u_ws R_T F_T 4, w ∈ lw_tbl := by decide +kernel
theorem g0_T : ∀ w ∈ u_ws R_T F_T 4, goodWord w = true := by decide +kernel
def R_O : String := "BuildCounter$Told"
def F_O : u_T := fun k => match k with
  | 0 => ("BuildCounter$Told", "fates", "[I", true)
  | 1 => ("BuildCounter$Told", "numbers", "[I", true)
  | 2 => ("BuildCounter$Told", "calls", "[I", true)
  | 3 => ("BuildCounter$Told", "values", "[J", true)
  | 4 => ("BuildCounter$Told", "free", "I", false)
  | 5 => ("BuildCounter$Told", "inAll", "I", false)
  | 6 => ("BuildCounter$Told", "answered", "I", false)
  | 7 => ("BuildCounter$Told", "failed", "I", false)
  | 8 => ("BuildCounter$Told", "refused", "I", false)
  | _ => ("BuildCounter$Told", "cameToWait", "I", false)
def ft_O : Nat → FieldType := fun k => match k with
  | 0 => (.array .int)
  | 1 => (.array .int)
  | 2 => (.array .int)
  | 3 => (.array .long)
  | 4 => .int
  | 5 => .int
  | 6 => .int
  | 7 => .int
  | 8 => .int
  | _ => .int
theorem n_O : ∀ a, a < 10 → ∀ b, b < 10 → a ≠ b → (F_O a).2.1 ≠ (F_O b).2.1 := by decide +kernel
theorem ft_O_ok : ∀ k, k < 10 → parseFieldDescriptor (F_O k).2.2.1 = some (ft_O k) := by decide +kernel
theorem i0_O : ∀ w ∈ u_ws R_O F_O 10, w ∈ lw_tbl := by decide +kernel
theorem g0_O : ∀ w ∈ u_ws R_O F_O 10, goodWord w = true := by decide +kernel
def R_M : String := "BuildCounterModel"
def F_M : u_T := fun k => match k with
  | 0 => ("BuildCounterModel", "thrown", "I", false)
  | 1 => ("BuildCounterModel", "made", "I", false)
  | 2 => ("BuildCounterModel", "kind", "[I", true)
  | 3 => ("BuildCounterModel", "in", "[I", true)
  | 4 => ("BuildCounterModel", "house", "[I", true)
  | 5 => ("BuildCounterModel", "left", "[I", true)
  | 6 => ("BuildCounterModel", "gone", "[I", true)
  | 7 => ("BuildCounterModel", "waiting", "[I", true)
  | 8 => ("BuildCounterModel", "waitCall", "[I", true)
  | 9 => ("BuildCounterModel", "waitThing", "[I", true)
  | 10 => ("BuildCounterModel", "waitWith", "[J", true)
  | 11 => ("BuildCounterModel", "held", "[I", true)
  | 12 => ("BuildCounterModel", "holds", "[I", true)
  | 13 => ("BuildCounterModel", "defined", "[Z", true)
  | 14 => ("BuildCounterModel", "of", "[I", true)
  | 15 => ("BuildCounterModel", "wants", "[I", true)
  | 16 => ("BuildCounterModel", "answers", "[I", true)
  | 17 => ("BuildCounterModel", "next", "[I", true)
  | 18 => ("BuildCounterModel", "sorts", "[I", true)
  | 19 => ("BuildCounterModel", "due", "[I", true)
  | 20 => ("BuildCounterModel", "low", "[J", true)
  | 21 => ("BuildCounterModel", "high", "[J", true)
  | 22 => ("BuildCounterModel", "table", "[J", true)
  | 23 => ("BuildCounterModel", "became", "[I", true)
  | 24 => ("BuildCounterModel", "whose", "[I", true)
  | 25 => ("BuildCounterModel", "which", "[I", true)
  | 26 => ("BuildCounterModel", "counts", "[I", true)
  | 27 => ("BuildCounterModel", "what", "[J", true)
  | 28 => ("BuildCounterModel", "failed", "I", false)
  | _ => ("BuildCounterModel", "got", "J", false)
def ft_M : Nat → FieldType := fun k => match k with
  | 0 => .int
  | 1 => .int
  | 2 => (.array .int)
  | 3 => (.array .int)
  | 4 => (.array .int)
  | 5 => (.array .int)
  | 6 => (.array .int)
  | 7 => (.array .int)
  | 8 => (.array .int)
  | 9 => (.array .int)
  | 10 => (.array .long)
  | 11 => (.array .int)
  | 12 => (.array .int)
  | 13 => (.array .boolean)
  | 14 => (.array .int)
  | 15 => (.array .int)
  | 16 => (.array .int)
  | 17 => (.array .int)
  | 18 => (.array .int)
  | 19 => (.array .int)
  | 20 => (.array .long)
  | 21 => (.array .long)
  | 22 => (.array .long)
  | 23 => (.array .int)
  | 24 => (.array .int)
  | 25 => (.array .int)
  | 26 => (.array .int)
  | 27 => (.array .long)
  | 28 => .int
  | _ => .long
theorem n_M : ∀ a, a < 30 → ∀ b, b < 30 → a ≠ b → (F_M a).2.1 ≠ (F_M b).2.1 := by decide +kernel
theorem ft_M_ok : ∀ k, k < 30 → parseFieldDescriptor (F_M k).2.2.1 = some (ft_M k) := by decide +kernel
theorem i0_M : ∀ w ∈ u_ws R_M F_M 30, w ∈ lw_tbl := by decide +kernel
theorem g0_M : ∀ w ∈ u_ws R_M F_M 30, goodWord w = true := by decide +kernel
abbrev vwCl : List vw_C := [(R_X, F_X, 5), (R_B, F_B, 6), (R_C, F_C, 2), (R_P, F_P, 9), (R_T, F_T, 4), (R_O, F_O, 10), (R_M, F_M, 30)]
abbrev b_X_init : ByteArray := prog_1_method_1_code
def y_X_init : MethodName := ⟨R_X, "<init>", "()V"⟩
abbrev b_X_make : ByteArray := prog_1_method_2_code
def y_X_make : MethodName := ⟨R_X, "make", "(II)I"⟩
abbrev b_X_drop : ByteArray := prog_1_method_3_code
def y_X_drop : MethodName := ⟨R_X, "drop", "(I)I"⟩
abbrev b_X_numbers : ByteArray := prog_1_method_4_code
def y_X_numbers : MethodName := ⟨R_X, "numbers", "(I)I"⟩
abbrev b_X_about : ByteArray := prog_1_method_5_code
def y_X_about : MethodName := ⟨R_X, "about", "(II)I"⟩
abbrev b_X_collect : ByteArray := prog_1_method_6_code
def y_X_collect : MethodName := ⟨R_X, "collect", "(II)I"⟩
abbrev b_X_collected : ByteArray := prog_1_method_7_code
def y_X_collected : MethodName := ⟨R_X, "collected", "(I)I"⟩
abbrev b_X_define : ByteArray := prog_1_method_8_code
def y_X_define : MethodName := ⟨R_X, "define", "(IIIJJ)Z"⟩
abbrev b_X_answer : ByteArray := prog_1_method_9_code
def y_X_answer : MethodName := ⟨R_X, "answer", "(IJ)I"⟩
abbrev b_X_fails : ByteArray := prog_1_method_10_code
def y_X_fails : MethodName := ⟨R_X, "fails", "(III)Z"⟩
abbrev b_X_call : ByteArray := prog_1_method_11_code
def y_X_call : MethodName := ⟨R_X, "call", "(IIJ)J"⟩
abbrev b_X_build : ByteArray := prog_1_method_12_code
def y_X_build : MethodName := ⟨R_X, "build", "(II)Z"⟩
abbrev b_X_turn : ByteArray := prog_1_method_13_code
def y_X_turn : MethodName := ⟨R_X, "turn", "(I)I"⟩
abbrev b_X_building : ByteArray := prog_1_method_14_code
def y_X_building : MethodName := ⟨R_X, "building", "(II)I"⟩
abbrev b_X_told : ByteArray := prog_1_method_15_code
def y_X_told : MethodName := ⟨R_X, "told", "(II)I"⟩
abbrev b_X_value : ByteArray := prog_1_method_16_code
def y_X_value : MethodName := ⟨R_X, "value", "(I)J"⟩
abbrev b_X_count : ByteArray := prog_1_method_17_code
def y_X_count : MethodName := ⟨R_X, "count", "(I)I"⟩
abbrev b_X_isKind : ByteArray := prog_1_method_18_code
def y_X_isKind : MethodName := ⟨R_X, "isKind", "(I)Z"⟩
abbrev b_X_isSort : ByteArray := prog_1_method_19_code
def y_X_isSort : MethodName := ⟨R_X, "isSort", "(I)Z"⟩
abbrev b_X_isCall : ByteArray := prog_1_method_20_code
def y_X_isCall : MethodName := ⟨R_X, "isCall", "(I)Z"⟩
abbrev b_X_fits : ByteArray := prog_1_method_21_code
def y_X_fits : MethodName := ⟨R_X, "fits", "(II)Z"⟩
abbrev b_X_thingAt : ByteArray := prog_1_method_22_code
def y_X_thingAt : MethodName := ⟨R_X, "thingAt", "(I)LBuildCounter$Thing;"⟩
abbrev b_X_houseAt : ByteArray := prog_1_method_23_code
def y_X_houseAt : MethodName := ⟨R_X, "houseAt", "(I)LBuildCounter$Thing;"⟩
abbrev b_X_partAt : ByteArray := prog_1_method_24_code
def y_X_partAt : MethodName := ⟨R_X, "partAt", "(I)LBuildCounter$Part;"⟩
abbrev b_X_keep : ByteArray := prog_1_method_25_code
def y_X_keep : MethodName := ⟨R_X, "keep", "(LBuildCounter$Thing;)I"⟩
abbrev b_X_hasLostItsPlace : ByteArray := prog_1_method_26_code
def y_X_hasLostItsPlace : MethodName := ⟨R_X, "hasLostItsPlace", "(LBuildCounter$Thing;)Z"⟩
abbrev b_X_lyingJustIn : ByteArray := prog_1_method_27_code
def y_X_lyingJustIn : MethodName := ⟨R_X, "lyingJustIn", "(I)I"⟩
abbrev b_X_refusalOf : ByteArray := prog_1_method_28_code
def y_X_refusalOf : MethodName := ⟨R_X, "refusalOf", "(LBuildCounter$Part;LBuildCounter$Build;J)J"⟩
abbrev b_X_tell : ByteArray := prog_1_method_29_code
def y_X_tell : MethodName := ⟨R_X, "tell", "(IIIJ)J"⟩
abbrev b_X_leastCallFor : ByteArray := prog_1_method_30_code
def y_X_leastCallFor : MethodName := ⟨R_X, "leastCallFor", "(I)I"⟩
abbrev b_X_callInTurn : ByteArray := prog_1_method_31_code
def y_X_callInTurn : MethodName := ⟨R_X, "callInTurn", "(LBuildCounter$Thing;III)I"⟩
abbrev b_X_goes : ByteArray := prog_1_method_32_code
def y_X_goes : MethodName := ⟨R_X, "goes", "(IIJ)Z"⟩
abbrev b_X_letWaitingGo : ByteArray := prog_1_method_33_code
def y_X_letWaitingGo : MethodName := ⟨R_X, "letWaitingGo", "(LBuildCounter$Build;)V"⟩
abbrev b_B_init : ByteArray := prog_2_method_1_code
def y_B_init : MethodName := ⟨R_B, "<init>", "()V"⟩
abbrev b_B_isOn : ByteArray := prog_2_method_2_code
def y_B_isOn : MethodName := ⟨R_B, "isOn", "()Z"⟩
abbrev b_B_isFull : ByteArray := prog_2_method_3_code
def y_B_isFull : MethodName := ⟨R_B, "isFull", "()Z"⟩
abbrev b_B_begin : ByteArray := prog_2_method_4_code
def y_B_begin : MethodName := ⟨R_B, "begin", "(I)V"⟩
abbrev b_B_nextTurn : ByteArray := prog_2_method_5_code
def y_B_nextTurn : MethodName := ⟨R_B, "nextTurn", "()I"⟩
abbrev b_B_queue : ByteArray := prog_2_method_6_code
def y_B_queue : MethodName := ⟨R_B, "queue", "(IIJ)V"⟩
abbrev b_C_init : ByteArray := prog_3_method_1_code
def y_C_init : MethodName := ⟨R_C, "<init>", "()V"⟩
abbrev b_C_size : ByteArray := prog_3_method_2_code
def y_C_size : MethodName := ⟨R_C, "size", "(I)I"⟩
abbrev b_C_sum : ByteArray := prog_3_method_3_code
def y_C_sum : MethodName := ⟨R_C, "sum", "(I)J"⟩
abbrev b_C_isFull : ByteArray := prog_3_method_4_code
def y_C_isFull : MethodName := ⟨R_C, "isFull", "(I)Z"⟩
abbrev b_C_append : ByteArray := prog_3_method_5_code
def y_C_append : MethodName := ⟨R_C, "append", "(II)V"⟩
abbrev b_C_empty : ByteArray := prog_3_method_6_code
def y_C_empty : MethodName := ⟨R_C, "empty", "(I)V"⟩
abbrev b_P_init : ByteArray := prog_4_method_1_code
def y_P_init : MethodName := ⟨R_P, "<init>", "()V"⟩
abbrev b_P_begin : ByteArray := prog_4_method_2_code
def y_P_begin : MethodName := ⟨R_P, "begin", "(IIJJ)V"⟩
abbrev b_P_addToTable : ByteArray := prog_4_method_3_code
def y_P_addToTable : MethodName := ⟨R_P, "addToTable", "(J)V"⟩
abbrev b_P_outcome : ByteArray := prog_4_method_4_code
def y_P_outcome : MethodName := ⟨R_P, "outcome", "()I"⟩
abbrev b_P_reply : ByteArray := prog_4_method_5_code
def y_P_reply : MethodName := ⟨R_P, "reply", "(J)J"⟩
abbrev b_T_init : ByteArray := prog_5_method_1_code
def y_T_init : MethodName := ⟨R_T, "<init>", "(IIILBuildCounter$Build;)V"⟩
abbrev b_O_init : ByteArray := prog_6_method_1_code
def y_O_init : MethodName := ⟨R_O, "<init>", "()V"⟩
abbrev b_O_add : ByteArray := prog_6_method_2_code
def y_O_add : MethodName := ⟨R_O, "add", "(IIIJ)V"⟩
abbrev b_O_addToCounts : ByteArray := prog_6_method_3_code
def y_O_addToCounts : MethodName := ⟨R_O, "addToCounts", "(I)V"⟩
abbrev b_O_spotOf : ByteArray := prog_6_method_4_code
def y_O_spotOf : MethodName := ⟨R_O, "spotOf", "(I)I"⟩
abbrev b_M_init : ByteArray := prog_8_method_1_code
def y_M_init : MethodName := ⟨R_M, "<init>", "()V"⟩
abbrev b_M_isThing : ByteArray := prog_8_method_3_code
def y_M_isThing : MethodName := ⟨R_M, "isThing", "(I)Z"⟩
abbrev b_M_isHouse : ByteArray := prog_8_method_4_code
def y_M_isHouse : MethodName := ⟨R_M, "isHouse", "(I)Z"⟩
abbrev b_M_isDefined : ByteArray := prog_8_method_5_code
def y_M_isDefined : MethodName := ⟨R_M, "isDefined", "(I)Z"⟩
abbrev b_M_liesIn : ByteArray := prog_8_method_6_code
def y_M_liesIn : MethodName := ⟨R_M, "liesIn", "(I)I"⟩
abbrev b_M_make : ByteArray := prog_8_method_7_code
def y_M_make : MethodName := ⟨R_M, "make", "(II)I"⟩
abbrev b_M_drop : ByteArray := prog_8_method_8_code
def y_M_drop : MethodName := ⟨R_M, "drop", "(I)I"⟩
abbrev b_M_numbers : ByteArray := prog_8_method_9_code
def y_M_numbers : MethodName := ⟨R_M, "numbers", "(I)I"⟩
abbrev b_M_about : ByteArray := prog_8_method_10_code
def y_M_about : MethodName := ⟨R_M, "about", "(II)I"⟩
abbrev b_M_isSort : ByteArray := prog_8_method_11_code
def y_M_isSort : MethodName := ⟨R_M, "isSort", "(I)Z"⟩
abbrev b_M_collect : ByteArray := prog_8_method_12_code
def y_M_collect : MethodName := ⟨R_M, "collect", "(II)I"⟩
abbrev b_M_collected : ByteArray := prog_8_method_13_code
def y_M_collected : MethodName := ⟨R_M, "collected", "(I)I"⟩
abbrev b_M_sumOf : ByteArray := prog_8_method_14_code
def y_M_sumOf : MethodName := ⟨R_M, "sumOf", "(I)J"⟩
abbrev b_M_define : ByteArray := prog_8_method_15_code
def y_M_define : MethodName := ⟨R_M, "define", "(IIIJJ)Z"⟩
abbrev b_M_answer : ByteArray := prog_8_method_16_code
def y_M_answer : MethodName := ⟨R_M, "answer", "(IJ)I"⟩
abbrev b_M_fails : ByteArray := prog_8_method_17_code
def y_M_fails : MethodName := ⟨R_M, "fails", "(III)Z"⟩
abbrev b_M_go : ByteArray := prog_8_method_18_code
def y_M_go : MethodName := ⟨R_M, "go", "(IJ)V"⟩
abbrev b_M_tell : ByteArray := prog_8_method_19_code
def y_M_tell : MethodName := ⟨R_M, "tell", "(IIIJ)V"⟩
abbrev b_M_refusal : ByteArray := prog_8_method_20_code
def y_M_refusal : MethodName := ⟨R_M, "refusal", "(IIJ)I"⟩
abbrev b_M_call : ByteArray := prog_8_method_21_code
def y_M_call : MethodName := ⟨R_M, "call", "(IIJ)J"⟩
abbrev b_M_build : ByteArray := prog_8_method_22_code
def y_M_build : MethodName := ⟨R_M, "build", "(II)Z"⟩
abbrev b_M_leastFor : ByteArray := prog_8_method_23_code
def y_M_leastFor : MethodName := ⟨R_M, "leastFor", "(I)I"⟩
abbrev b_M_turn : ByteArray := prog_8_method_24_code
def y_M_turn : MethodName := ⟨R_M, "turn", "(I)I"⟩
abbrev b_M_building : ByteArray := prog_8_method_25_code
def y_M_building : MethodName := ⟨R_M, "building", "(II)I"⟩
abbrev b_M_isTold : ByteArray := prog_8_method_26_code
def y_M_isTold : MethodName := ⟨R_M, "isTold", "(I)Z"⟩
abbrev b_M_placeOf : ByteArray := prog_8_method_27_code
def y_M_placeOf : MethodName := ⟨R_M, "placeOf", "(I)I"⟩
abbrev b_M_told : ByteArray := prog_8_method_28_code
def y_M_told : MethodName := ⟨R_M, "told", "(II)I"⟩
abbrev b_M_value : ByteArray := prog_8_method_29_code
def y_M_value : MethodName := ⟨R_M, "value", "(I)J"⟩
abbrev b_M_count : ByteArray := prog_8_method_30_code
def y_M_count : MethodName := ⟨R_M, "count", "(I)I"⟩
end
section
theorem d_B_init_0 : decode b_B_init 0 = .ok (.aload_n 0, 1) := by decide +kernel
theorem d_B_init_1 : decode b_B_init 1 = .ok (.invokespecial 3, 3) := by decide +kernel
theorem d_B_init_4 : decode b_B_init 4 = .ok (.aload_n 0, 1) := by decide +kernel
theorem d_B_init_5 : decode b_B_init 5 = .ok (.bipush 6, 2) := by decide +kernel
theorem d_B_init_7 : decode b_B_init 7 = .ok (.newarray .int, 2) := by decide +kernel
theorem d_B_init_9 : decode b_B_init 9 = .ok (.putfield 9, 3) := by decide +kernel
theorem d_B_init_12 : decode b_B_init 12 = .ok (.aload_n 0, 1) := by decide +kernel
theorem d_B_init_13 : decode b_B_init 13 = .ok (.bipush 6, 2) := by decide +kernel
theorem d_B_init_15 : decode b_B_init 15 = .ok (.newarray .int, 2) := by decide +kernel
theorem d_B_init_17 : decode b_B_init 17 = .ok (.putfield 15, 3) := by decide +kernel
theorem d_B_init_20 : decode b_B_init 20 = .ok (.aload_n 0, 1) := by decide +kernel
theorem d_B_init_21 : decode b_B_init 21 = .ok (.bipush 6, 2) := by decide +kernel
theorem d_B_init_23 : decode b_B_init 23 = .ok (.newarray .long, 2) := by decide +kernel
theorem d_B_init_25 : decode b_B_init 25 = .ok (.putfield 18, 3) := by decide +kernel
theorem d_B_init_28 : decode b_B_init 28 = .ok (.return_, 1) := by decide +kernel
theorem d_B_isOn_0 : decode b_B_isOn 0 = .ok (.aload_n 0, 1) := by decide +kernel
theorem d_B_isOn_1 : decode b_B_isOn 1 = .ok (.getfield 22, 3) := by decide +kernel
theorem d_B_isOn_4 : decode b_B_isOn 4 = .ok (.ifCond .le 7, 3) := by decide +kernel
theorem d_B_isOn_7 : decode b_B_isOn 7 = .ok (.iconst 1, 1) := by decide +kernel
theorem d_B_isOn_8 : decode b_B_isOn 8 = .ok (.goto 4, 3) := by decide +kernel
theorem d_B_isOn_11 : decode b_B_isOn 11 = .ok (.iconst 0, 1) := by decide +kernel
theorem d_B_isOn_12 : decode b_B_isOn 12 = .ok (.ireturn, 1) := by decide +kernel
theorem d_B_isFull_0 : decode b_B_isFull 0 = .ok (.aload_n 0, 1) := by decide +kernel
theorem d_B_isFull_1 : decode b_B_isFull 1 = .ok (.getfield 26, 3) := by decide +kernel
theorem d_B_isFull_4 : decode b_B_isFull 4 = .ok (.bipush 6, 2) := by decide +kernel
theorem d_B_isFull_6 : decode b_B_isFull 6 = .ok (.if_icmp .lt 7, 3) := by decide +kernel
theorem d_B_isFull_9 : decode b_B_isFull 9 = .ok (.iconst 1, 1) := by decide +kernel
theorem d_B_isFull_10 : decode b_B_isFull 10 = .ok (.goto 4, 3) := by decide +kernel
theorem d_B_isFull_13 : decode b_B_isFull 13 = .ok (.iconst 0, 1) := by decide +kernel
theorem d_B_isFull_14 : decode b_B_isFull 14 = .ok (.ireturn, 1) := by decide +kernel
theorem d_B_begin_0 : decode b_B_begin 0 = .ok (.aload_n 0, 1) := by decide +kernel
theorem d_B_begin_1 : decode b_B_begin 1 = .ok (.iload_n 1, 1) := by decide +kernel
theorem d_B_begin_2 : decode b_B_begin 2 = .ok (.putfield 22, 3) := by decide +kernel
theorem d_B_begin_5 : decode b_B_begin 5 = .ok (.aload_n 0, 1) := by decide +kernel
theorem d_B_begin_6 : decode b_B_begin 6 = .ok (.iconst 0, 1) := by decide +kernel
theorem d_B_begin_7 : decode b_B_begin 7 = .ok (.putfield 29, 3) := by decide +kernel
theorem d_B_begin_10 : decode b_B_begin 10 = .ok (.return_, 1) := by decide +kernel
theorem d_B_nextTurn_0 : decode b_B_nextTurn 0 = .ok (.aload_n 0, 1) := by decide +kernel
theorem d_B_nextTurn_1 : decode b_B_nextTurn 1 = .ok (.dup, 1) := by decide +kernel
theorem d_B_nextTurn_2 : decode b_B_nextTurn 2 = .ok (.getfield 22, 3) := by decide +kernel
theorem d_B_nextTurn_5 : decode b_B_nextTurn 5 = .ok (.iconst 1, 1) := by decide +kernel
theorem d_B_nextTurn_6 : decode b_B_nextTurn 6 = .ok (.isub, 1) := by decide +kernel
theorem d_B_nextTurn_7 : decode b_B_nextTurn 7 = .ok (.putfield 22, 3) := by decide +kernel
theorem d_B_nextTurn_10 : decode b_B_nextTurn 10 = .ok (.aload_n 0, 1) := by decide +kernel
theorem d_B_nextTurn_11 : decode b_B_nextTurn 11 = .ok (.dup, 1) := by decide +kernel
theorem d_B_nextTurn_12 : decode b_B_nextTurn 12 = .ok (.getfield 29, 3) := by decide +kernel
theorem d_B_nextTurn_15 : decode b_B_nextTurn 15 = .ok (.iconst 1, 1) := by decide +kernel
theorem d_B_nextTurn_16 : decode b_B_nextTurn 16 = .ok (.iadd, 1) := by decide +kernel
theorem d_B_nextTurn_17 : decode b_B_nextTurn 17 = .ok (.putfield 29, 3) := by decide +kernel
theorem d_B_nextTurn_20 : decode b_B_nextTurn 20 = .ok (.aload_n 0, 1) := by decide +kernel
theorem d_B_nextTurn_21 : decode b_B_nextTurn 21 = .ok (.getfield 29, 3) := by decide +kernel
theorem d_B_nextTurn_24 : decode b_B_nextTurn 24 = .ok (.ireturn, 1) := by decide +kernel
theorem d_B_queue_0 : decode b_B_queue 0 = .ok (.aload_n 0, 1) := by decide +kernel
theorem d_B_queue_1 : decode b_B_queue 1 = .ok (.invokevirtual 32, 3) := by decide +kernel
theorem d_B_queue_4 : decode b_B_queue 4 = .ok (.ifCond .ne 43, 3) := by decide +kernel
theorem d_B_queue_7 : decode b_B_queue 7 = .ok (.aload_n 0, 1) := by decide +kernel
theorem d_B_queue_8 : decode b_B_queue 8 = .ok (.getfield 9, 3) := by decide +kernel
theorem d_B_queue_11 : decode b_B_queue 11 = .ok (.aload_n 0, 1) := by decide +kernel
theorem d_B_queue_12 : decode b_B_queue 12 = .ok (.getfield 26, 3) := by decide +kernel
theorem d_B_queue_15 : decode b_B_queue 15 = .ok (.iload_n 1, 1) := by decide +kernel
theorem d_B_queue_16 : decode b_B_queue 16 = .ok (.iastore, 1) := by decide +kernel
theorem d_B_queue_17 : decode b_B_queue 17 = .ok (.aload_n 0, 1) := by decide +kernel
theorem d_B_queue_18 : decode b_B_queue 18 = .ok (.getfield 15, 3) := by decide +kernel
theorem d_B_queue_21 : decode b_B_queue 21 = .ok (.aload_n 0, 1) := by decide +kernel
theorem d_B_queue_22 : decode b_B_queue 22 = .ok (.getfield 26, 3) := by decide +kernel
theorem d_B_queue_25 : decode b_B_queue 25 = .ok (.iload_n 2, 1) := by decide +kernel
theorem d_B_queue_26 : decode b_B_queue 26 = .ok (.iastore, 1) := by decide +kernel
theorem d_B_queue_27 : decode b_B_queue 27 = .ok (.aload_n 0, 1) := by decide +kernel
theorem d_B_queue_28 : decode b_B_queue 28 = .ok (.getfield 18, 3) := by decide +kernel
theorem d_B_queue_31 : decode b_B_queue 31 = .ok (.aload_n 0, 1) := by decide +kernel
theorem d_B_queue_32 : decode b_B_queue 32 = .ok (.getfield 26, 3) := by decide +kernel
theorem d_B_queue_35 : decode b_B_queue 35 = .ok (.lload_n 3, 1) := by decide +kernel
theorem d_B_queue_36 : decode b_B_queue 36 = .ok (.lastore, 1) := by decide +kernel
theorem d_B_queue_37 : decode b_B_queue 37 = .ok (.aload_n 0, 1) := by decide +kernel
theorem d_B_queue_38 : decode b_B_queue 38 = .ok (.dup, 1) := by decide +kernel
theorem d_B_queue_39 : decode b_B_queue 39 = .ok (.getfield 26, 3) := by decide +kernel
theorem d_B_queue_42 : decode b_B_queue 42 = .ok (.iconst 1, 1) := by decide +kernel
theorem d_B_queue_43 : decode b_B_queue 43 = .ok (.iadd, 1) := by decide +kernel
theorem d_B_queue_44 : decode b_B_queue 44 = .ok (.putfield 26, 3) := by decide +kernel
theorem d_B_queue_47 : decode b_B_queue 47 = .ok (.return_, 1) := by decide +kernel
theorem d_C_init_0 : decode b_C_init 0 = .ok (.aload_n 0, 1) := by decide +kernel
theorem d_C_init_1 : decode b_C_init 1 = .ok (.invokespecial 1, 3) := by decide +kernel
theorem d_C_init_4 : decode b_C_init 4 = .ok (.aload_n 0, 1) := by decide +kernel
theorem d_C_init_5 : decode b_C_init 5 = .ok (.getstatic 7, 3) := by decide +kernel
theorem d_C_init_8 : decode b_C_init 8 = .ok (.arraylength, 1) := by decide +kernel
theorem d_C_init_9 : decode b_C_init 9 = .ok (.newarray .int, 2) := by decide +kernel
theorem d_C_init_11 : decode b_C_init 11 = .ok (.putfield 13, 3) := by decide +kernel
theorem d_C_init_14 : decode b_C_init 14 = .ok (.aload_n 0, 1) := by decide +kernel
theorem d_C_init_15 : decode b_C_init 15 = .ok (.getstatic 7, 3) := by decide +kernel
theorem d_C_init_18 : decode b_C_init 18 = .ok (.arraylength, 1) := by decide +kernel
theorem d_C_init_19 : decode b_C_init 19 = .ok (.newarray .long, 2) := by decide +kernel
theorem d_C_init_21 : decode b_C_init 21 = .ok (.putfield 18, 3) := by decide +kernel
theorem d_C_init_24 : decode b_C_init 24 = .ok (.return_, 1) := by decide +kernel
theorem d_C_size_0 : decode b_C_size 0 = .ok (.iload_n 1, 1) := by decide +kernel
theorem d_C_size_1 : decode b_C_size 1 = .ok (.invokestatic 22, 3) := by decide +kernel
theorem d_C_size_4 : decode b_C_size 4 = .ok (.ifCond .eq 12, 3) := by decide +kernel
theorem d_C_size_7 : decode b_C_size 7 = .ok (.aload_n 0, 1) := by decide +kernel
theorem d_C_size_8 : decode b_C_size 8 = .ok (.getfield 13, 3) := by decide +kernel
theorem d_C_size_11 : decode b_C_size 11 = .ok (.iload_n 1, 1) := by decide +kernel
theorem d_C_size_12 : decode b_C_size 12 = .ok (.iaload, 1) := by decide +kernel
theorem d_C_size_13 : decode b_C_size 13 = .ok (.goto 4, 3) := by decide +kernel
theorem d_C_size_16 : decode b_C_size 16 = .ok (.iconst 0, 1) := by decide +kernel
theorem d_C_size_17 : decode b_C_size 17 = .ok (.ireturn, 1) := by decide +kernel
theorem d_C_sum_0 : decode b_C_sum 0 = .ok (.iload_n 1, 1) := by decide +kernel
theorem d_C_sum_1 : decode b_C_sum 1 = .ok (.invokestatic 22, 3) := by decide +kernel
theorem d_C_sum_4 : decode b_C_sum 4 = .ok (.ifCond .eq 12, 3) := by decide +kernel
theorem d_C_sum_7 : decode b_C_sum 7 = .ok (.aload_n 0, 1) := by decide +kernel
theorem d_C_sum_8 : decode b_C_sum 8 = .ok (.getfield 18, 3) := by decide +kernel
theorem d_C_sum_11 : decode b_C_sum 11 = .ok (.iload_n 1, 1) := by decide +kernel
theorem d_C_sum_12 : decode b_C_sum 12 = .ok (.laload, 1) := by decide +kernel
theorem d_C_sum_13 : decode b_C_sum 13 = .ok (.goto 4, 3) := by decide +kernel
theorem d_C_sum_16 : decode b_C_sum 16 = .ok (.lconst 0, 1) := by decide +kernel
theorem d_C_sum_17 : decode b_C_sum 17 = .ok (.lreturn, 1) := by decide +kernel
theorem d_C_isFull_0 : decode b_C_isFull 0 = .ok (.iload_n 1, 1) := by decide +kernel
theorem d_C_isFull_1 : decode b_C_isFull 1 = .ok (.invokestatic 22, 3) := by decide +kernel
theorem d_C_isFull_4 : decode b_C_isFull 4 = .ok (.ifCond .eq 17, 3) := by decide +kernel
theorem d_C_isFull_7 : decode b_C_isFull 7 = .ok (.aload_n 0, 1) := by decide +kernel
theorem d_C_isFull_8 : decode b_C_isFull 8 = .ok (.getfield 13, 3) := by decide +kernel
theorem d_C_isFull_11 : decode b_C_isFull 11 = .ok (.iload_n 1, 1) := by decide +kernel
theorem d_C_isFull_12 : decode b_C_isFull 12 = .ok (.iaload, 1) := by decide +kernel
theorem d_C_isFull_13 : decode b_C_isFull 13 = .ok (.getstatic 7, 3) := by decide +kernel
theorem d_C_isFull_16 : decode b_C_isFull 16 = .ok (.iload_n 1, 1) := by decide +kernel
theorem d_C_isFull_17 : decode b_C_isFull 17 = .ok (.iaload, 1) := by decide +kernel
theorem d_C_isFull_18 : decode b_C_isFull 18 = .ok (.if_icmp .lt 7, 3) := by decide +kernel
theorem d_C_isFull_21 : decode b_C_isFull 21 = .ok (.iconst 1, 1) := by decide +kernel
theorem d_C_isFull_22 : decode b_C_isFull 22 = .ok (.goto 4, 3) := by decide +kernel
theorem d_C_isFull_25 : decode b_C_isFull 25 = .ok (.iconst 0, 1) := by decide +kernel
theorem d_C_isFull_26 : decode b_C_isFull 26 = .ok (.ireturn, 1) := by decide +kernel
theorem d_C_append_0 : decode b_C_append 0 = .ok (.iload_n 1, 1) := by decide +kernel
theorem d_C_append_1 : decode b_C_append 1 = .ok (.invokestatic 22, 3) := by decide +kernel
theorem d_C_append_4 : decode b_C_append 4 = .ok (.ifCond .eq 34, 3) := by decide +kernel
theorem d_C_append_7 : decode b_C_append 7 = .ok (.aload_n 0, 1) := by decide +kernel
theorem d_C_append_8 : decode b_C_append 8 = .ok (.getfield 18, 3) := by decide +kernel
theorem d_C_append_11 : decode b_C_append 11 = .ok (.iload_n 1, 1) := by decide +kernel
theorem d_C_append_12 : decode b_C_append 12 = .ok (.ldc2_w 26, 3) := by decide +kernel
theorem d_C_append_15 : decode b_C_append 15 = .ok (.aload_n 0, 1) := by decide +kernel
theorem d_C_append_16 : decode b_C_append 16 = .ok (.getfield 18, 3) := by decide +kernel
theorem d_C_append_19 : decode b_C_append 19 = .ok (.iload_n 1, 1) := by decide +kernel
theorem d_C_append_20 : decode b_C_append 20 = .ok (.laload, 1) := by decide +kernel
theorem d_C_append_21 : decode b_C_append 21 = .ok (.lmul, 1) := by decide +kernel
theorem d_C_append_22 : decode b_C_append 22 = .ok (.iload_n 2, 1) := by decide +kernel
theorem d_C_append_23 : decode b_C_append 23 = .ok (.i2l, 1) := by decide +kernel
theorem d_C_append_24 : decode b_C_append 24 = .ok (.ladd, 1) := by decide +kernel
theorem d_C_append_25 : decode b_C_append 25 = .ok (.lconst 1, 1) := by decide +kernel
theorem d_C_append_26 : decode b_C_append 26 = .ok (.ladd, 1) := by decide +kernel
theorem d_C_append_27 : decode b_C_append 27 = .ok (.lastore, 1) := by decide +kernel
theorem d_C_append_28 : decode b_C_append 28 = .ok (.aload_n 0, 1) := by decide +kernel
theorem d_C_append_29 : decode b_C_append 29 = .ok (.getfield 13, 3) := by decide +kernel
theorem d_C_append_32 : decode b_C_append 32 = .ok (.iload_n 1, 1) := by decide +kernel
theorem d_C_append_33 : decode b_C_append 33 = .ok (.dup2, 1) := by decide +kernel
theorem d_C_append_34 : decode b_C_append 34 = .ok (.iaload, 1) := by decide +kernel
theorem d_C_append_35 : decode b_C_append 35 = .ok (.iconst 1, 1) := by decide +kernel
theorem d_C_append_36 : decode b_C_append 36 = .ok (.iadd, 1) := by decide +kernel
theorem d_C_append_37 : decode b_C_append 37 = .ok (.iastore, 1) := by decide +kernel
theorem d_C_append_38 : decode b_C_append 38 = .ok (.return_, 1) := by decide +kernel
theorem d_C_empty_0 : decode b_C_empty 0 = .ok (.iload_n 1, 1) := by decide +kernel
theorem d_C_empty_1 : decode b_C_empty 1 = .ok (.invokestatic 22, 3) := by decide +kernel
theorem d_C_empty_4 : decode b_C_empty 4 = .ok (.ifCond .eq 17, 3) := by decide +kernel
theorem d_C_empty_7 : decode b_C_empty 7 = .ok (.aload_n 0, 1) := by decide +kernel
theorem d_C_empty_8 : decode b_C_empty 8 = .ok (.getfield 18, 3) := by decide +kernel
theorem d_C_empty_11 : decode b_C_empty 11 = .ok (.iload_n 1, 1) := by decide +kernel
theorem d_C_empty_12 : decode b_C_empty 12 = .ok (.lconst 0, 1) := by decide +kernel
theorem d_C_empty_13 : decode b_C_empty 13 = .ok (.lastore, 1) := by decide +kernel
theorem d_C_empty_14 : decode b_C_empty 14 = .ok (.aload_n 0, 1) := by decide +kernel
theorem d_C_empty_15 : decode b_C_empty 15 = .ok (.getfield 13, 3) := by decide +kernel
theorem d_C_empty_18 : decode b_C_empty 18 = .ok (.iload_n 1, 1) := by decide +kernel
theorem d_C_empty_19 : decode b_C_empty 19 = .ok (.iconst 0, 1) := by decide +kernel
theorem d_C_empty_20 : decode b_C_empty 20 = .ok (.iastore, 1) := by decide +kernel
theorem d_C_empty_21 : decode b_C_empty 21 = .ok (.return_, 1) := by decide +kernel
theorem d_P_init_0 : decode b_P_init 0 = .ok (.aload_n 0, 1) := by decide +kernel
theorem d_P_init_1 : decode b_P_init 1 = .ok (.invokespecial 3, 3) := by decide +kernel
theorem d_P_init_4 : decode b_P_init 4 = .ok (.aload_n 0, 1) := by decide +kernel
theorem d_P_init_5 : decode b_P_init 5 = .ok (.iconst 5, 1) := by decide +kernel
theorem d_P_init_6 : decode b_P_init 6 = .ok (.newarray .long, 2) := by decide +kernel
theorem d_P_init_8 : decode b_P_init 8 = .ok (.putfield 9, 3) := by decide +kernel
theorem d_P_init_11 : decode b_P_init 11 = .ok (.return_, 1) := by decide +kernel
theorem d_P_begin_0 : decode b_P_begin 0 = .ok (.aload_n 0, 1) := by decide +kernel
theorem d_P_begin_1 : decode b_P_begin 1 = .ok (.iload_n 1, 1) := by decide +kernel
theorem d_P_begin_2 : decode b_P_begin 2 = .ok (.putfield 15, 3) := by decide +kernel
theorem d_P_begin_5 : decode b_P_begin 5 = .ok (.aload_n 0, 1) := by decide +kernel
theorem d_P_begin_6 : decode b_P_begin 6 = .ok (.iload_n 2, 1) := by decide +kernel
theorem d_P_begin_7 : decode b_P_begin 7 = .ok (.putfield 19, 3) := by decide +kernel
theorem d_P_begin_10 : decode b_P_begin 10 = .ok (.aload_n 0, 1) := by decide +kernel
theorem d_P_begin_11 : decode b_P_begin 11 = .ok (.lload_n 3, 1) := by decide +kernel
theorem d_P_begin_12 : decode b_P_begin 12 = .ok (.putfield 22, 3) := by decide +kernel
theorem d_P_begin_15 : decode b_P_begin 15 = .ok (.aload_n 0, 1) := by decide +kernel
theorem d_P_begin_16 : decode b_P_begin 16 = .ok (.lload 5, 2) := by decide +kernel
theorem d_P_begin_18 : decode b_P_begin 18 = .ok (.putfield 26, 3) := by decide +kernel
theorem d_P_begin_21 : decode b_P_begin 21 = .ok (.aload_n 0, 1) := by decide +kernel
theorem d_P_begin_22 : decode b_P_begin 22 = .ok (.iconst 0, 1) := by decide +kernel
theorem d_P_begin_23 : decode b_P_begin 23 = .ok (.putfield 29, 3) := by decide +kernel
theorem d_P_begin_26 : decode b_P_begin 26 = .ok (.aload_n 0, 1) := by decide +kernel
theorem d_P_begin_27 : decode b_P_begin 27 = .ok (.iconst 0, 1) := by decide +kernel
theorem d_P_begin_28 : decode b_P_begin 28 = .ok (.putfield 32, 3) := by decide +kernel
theorem d_P_begin_31 : decode b_P_begin 31 = .ok (.aload_n 0, 1) := by decide +kernel
theorem d_P_begin_32 : decode b_P_begin 32 = .ok (.iconst 0, 1) := by decide +kernel
theorem d_P_begin_33 : decode b_P_begin 33 = .ok (.putfield 35, 3) := by decide +kernel
theorem d_P_begin_36 : decode b_P_begin 36 = .ok (.return_, 1) := by decide +kernel
theorem d_P_addToTable_0 : decode b_P_addToTable 0 = .ok (.aload_n 0, 1) := by decide +kernel
theorem d_P_addToTable_1 : decode b_P_addToTable 1 = .ok (.getfield 29, 3) := by decide +kernel
theorem d_P_addToTable_4 : decode b_P_addToTable 4 = .ok (.iconst 5, 1) := by decide +kernel
theorem d_P_addToTable_5 : decode b_P_addToTable 5 = .ok (.if_icmp .ge 23, 3) := by decide +kernel
theorem d_P_addToTable_8 : decode b_P_addToTable 8 = .ok (.aload_n 0, 1) := by decide +kernel
theorem d_P_addToTable_9 : decode b_P_addToTable 9 = .ok (.getfield 9, 3) := by decide +kernel
theorem d_P_addToTable_12 : decode b_P_addToTable 12 = .ok (.aload_n 0, 1) := by decide +kernel
theorem d_P_addToTable_13 : decode b_P_addToTable 13 = .ok (.getfield 29, 3) := by decide +kernel
theorem d_P_addToTable_16 : decode b_P_addToTable 16 = .ok (.lload_n 1, 1) := by decide +kernel
theorem d_P_addToTable_17 : decode b_P_addToTable 17 = .ok (.lastore, 1) := by decide +kernel
theorem d_P_addToTable_18 : decode b_P_addToTable 18 = .ok (.aload_n 0, 1) := by decide +kernel
theorem d_P_addToTable_19 : decode b_P_addToTable 19 = .ok (.dup, 1) := by decide +kernel
theorem d_P_addToTable_20 : decode b_P_addToTable 20 = .ok (.getfield 29, 3) := by decide +kernel
theorem d_P_addToTable_23 : decode b_P_addToTable 23 = .ok (.iconst 1, 1) := by decide +kernel
theorem d_P_addToTable_24 : decode b_P_addToTable 24 = .ok (.iadd, 1) := by decide +kernel
theorem d_P_addToTable_25 : decode b_P_addToTable 25 = .ok (.putfield 29, 3) := by decide +kernel
theorem d_P_addToTable_28 : decode b_P_addToTable 28 = .ok (.return_, 1) := by decide +kernel
theorem d_P_outcome_0 : decode b_P_outcome 0 = .ok (.aload_n 0, 1) := by decide +kernel
theorem d_P_outcome_1 : decode b_P_outcome 1 = .ok (.getfield 35, 3) := by decide +kernel
theorem d_P_outcome_4 : decode b_P_outcome 4 = .ok (.ifCond .gt 5, 3) := by decide +kernel
theorem d_P_outcome_7 : decode b_P_outcome 7 = .ok (.iconst 0, 1) := by decide +kernel
theorem d_P_outcome_8 : decode b_P_outcome 8 = .ok (.ireturn, 1) := by decide +kernel
theorem d_P_outcome_9 : decode b_P_outcome 9 = .ok (.aload_n 0, 1) := by decide +kernel
theorem d_P_outcome_10 : decode b_P_outcome 10 = .ok (.dup, 1) := by decide +kernel
theorem d_P_outcome_11 : decode b_P_outcome 11 = .ok (.getfield 35, 3) := by decide +kernel
theorem d_P_outcome_14 : decode b_P_outcome 14 = .ok (.iconst 1, 1) := by decide +kernel
theorem d_P_outcome_15 : decode b_P_outcome 15 = .ok (.isub, 1) := by decide +kernel
theorem d_P_outcome_16 : decode b_P_outcome 16 = .ok (.putfield 35, 3) := by decide +kernel
theorem d_P_outcome_19 : decode b_P_outcome 19 = .ok (.aload_n 0, 1) := by decide +kernel
theorem d_P_outcome_20 : decode b_P_outcome 20 = .ok (.getfield 38, 3) := by decide +kernel
theorem d_P_outcome_23 : decode b_P_outcome 23 = .ok (.ireturn, 1) := by decide +kernel
theorem d_P_reply_0 : decode b_P_reply 0 = .ok (.aload_n 0, 1) := by decide +kernel
theorem d_P_reply_1 : decode b_P_reply 1 = .ok (.getfield 32, 3) := by decide +kernel
theorem d_P_reply_4 : decode b_P_reply 4 = .ok (.aload_n 0, 1) := by decide +kernel
theorem d_P_reply_5 : decode b_P_reply 5 = .ok (.getfield 29, 3) := by decide +kernel
theorem d_P_reply_8 : decode b_P_reply 8 = .ok (.if_icmp .lt 5, 3) := by decide +kernel
theorem d_P_reply_11 : decode b_P_reply 11 = .ok (.lload_n 1, 1) := by decide +kernel
theorem d_P_reply_12 : decode b_P_reply 12 = .ok (.lreturn, 1) := by decide +kernel
theorem d_P_reply_13 : decode b_P_reply 13 = .ok (.lload_n 1, 1) := by decide +kernel
theorem d_P_reply_14 : decode b_P_reply 14 = .ok (.aload_n 0, 1) := by decide +kernel
theorem d_P_reply_15 : decode b_P_reply 15 = .ok (.getfield 9, 3) := by decide +kernel
theorem d_P_reply_18 : decode b_P_reply 18 = .ok (.aload_n 0, 1) := by decide +kernel
theorem d_P_reply_19 : decode b_P_reply 19 = .ok (.getfield 32, 3) := by decide +kernel
theorem d_P_reply_22 : decode b_P_reply 22 = .ok (.laload, 1) := by decide +kernel
theorem d_P_reply_23 : decode b_P_reply 23 = .ok (.ladd, 1) := by decide +kernel
theorem d_P_reply_24 : decode b_P_reply 24 = .ok (.lstore_n 3, 1) := by decide +kernel
theorem d_P_reply_25 : decode b_P_reply 25 = .ok (.aload_n 0, 1) := by decide +kernel
theorem d_P_reply_26 : decode b_P_reply 26 = .ok (.aload_n 0, 1) := by decide +kernel
theorem d_P_reply_27 : decode b_P_reply 27 = .ok (.getfield 32, 3) := by decide +kernel
theorem d_P_reply_30 : decode b_P_reply 30 = .ok (.iconst 1, 1) := by decide +kernel
theorem d_P_reply_31 : decode b_P_reply 31 = .ok (.iadd, 1) := by decide +kernel
theorem d_P_reply_32 : decode b_P_reply 32 = .ok (.aload_n 0, 1) := by decide +kernel
theorem d_P_reply_33 : decode b_P_reply 33 = .ok (.getfield 29, 3) := by decide +kernel
theorem d_P_reply_36 : decode b_P_reply 36 = .ok (.if_icmp .ge 12, 3) := by decide +kernel
theorem d_P_reply_39 : decode b_P_reply 39 = .ok (.aload_n 0, 1) := by decide +kernel
theorem d_P_reply_40 : decode b_P_reply 40 = .ok (.getfield 32, 3) := by decide +kernel
theorem d_P_reply_43 : decode b_P_reply 43 = .ok (.iconst 1, 1) := by decide +kernel
theorem d_P_reply_44 : decode b_P_reply 44 = .ok (.iadd, 1) := by decide +kernel
theorem d_P_reply_45 : decode b_P_reply 45 = .ok (.goto 4, 3) := by decide +kernel
theorem d_P_reply_48 : decode b_P_reply 48 = .ok (.iconst 0, 1) := by decide +kernel
theorem d_P_reply_49 : decode b_P_reply 49 = .ok (.putfield 32, 3) := by decide +kernel
theorem d_P_reply_52 : decode b_P_reply 52 = .ok (.lload_n 3, 1) := by decide +kernel
theorem d_P_reply_53 : decode b_P_reply 53 = .ok (.lreturn, 1) := by decide +kernel
theorem d_T_init_0 : decode b_T_init 0 = .ok (.aload_n 0, 1) := by decide +kernel
theorem d_T_init_1 : decode b_T_init 1 = .ok (.invokespecial 1, 3) := by decide +kernel
theorem d_T_init_4 : decode b_T_init 4 = .ok (.aload_n 0, 1) := by decide +kernel
theorem d_T_init_5 : decode b_T_init 5 = .ok (.iload_n 1, 1) := by decide +kernel
theorem d_T_init_6 : decode b_T_init 6 = .ok (.putfield 7, 3) := by decide +kernel
theorem d_T_init_9 : decode b_T_init 9 = .ok (.aload_n 0, 1) := by decide +kernel
theorem d_T_init_10 : decode b_T_init 10 = .ok (.iload_n 2, 1) := by decide +kernel
theorem d_T_init_11 : decode b_T_init 11 = .ok (.putfield 13, 3) := by decide +kernel
theorem d_T_init_14 : decode b_T_init 14 = .ok (.aload_n 0, 1) := by decide +kernel
theorem d_T_init_15 : decode b_T_init 15 = .ok (.iload_n 3, 1) := by decide +kernel
theorem d_T_init_16 : decode b_T_init 16 = .ok (.putfield 16, 3) := by decide +kernel
theorem d_T_init_19 : decode b_T_init 19 = .ok (.aload_n 0, 1) := by decide +kernel
theorem d_T_init_20 : decode b_T_init 20 = .ok (.aload 4, 2) := by decide +kernel
theorem d_T_init_22 : decode b_T_init 22 = .ok (.putfield 19, 3) := by decide +kernel
theorem d_T_init_25 : decode b_T_init 25 = .ok (.return_, 1) := by decide +kernel
theorem d_O_init_0 : decode b_O_init 0 = .ok (.aload_n 0, 1) := by decide +kernel
theorem d_O_init_1 : decode b_O_init 1 = .ok (.invokespecial 3, 3) := by decide +kernel
theorem d_O_init_4 : decode b_O_init 4 = .ok (.aload_n 0, 1) := by decide +kernel
theorem d_O_init_5 : decode b_O_init 5 = .ok (.bipush 40, 2) := by decide +kernel
theorem d_O_init_7 : decode b_O_init 7 = .ok (.newarray .int, 2) := by decide +kernel
theorem d_O_init_9 : decode b_O_init 9 = .ok (.putfield 9, 3) := by decide +kernel
theorem d_O_init_12 : decode b_O_init 12 = .ok (.aload_n 0, 1) := by decide +kernel
theorem d_O_init_13 : decode b_O_init 13 = .ok (.bipush 40, 2) := by decide +kernel
theorem d_O_init_15 : decode b_O_init 15 = .ok (.newarray .int, 2) := by decide +kernel
theorem d_O_init_17 : decode b_O_init 17 = .ok (.putfield 15, 3) := by decide +kernel
theorem d_O_init_20 : decode b_O_init 20 = .ok (.aload_n 0, 1) := by decide +kernel
theorem d_O_init_21 : decode b_O_init 21 = .ok (.bipush 40, 2) := by decide +kernel
theorem d_O_init_23 : decode b_O_init 23 = .ok (.newarray .int, 2) := by decide +kernel
theorem d_O_init_25 : decode b_O_init 25 = .ok (.putfield 18, 3) := by decide +kernel
theorem d_O_init_28 : decode b_O_init 28 = .ok (.aload_n 0, 1) := by decide +kernel
theorem d_O_init_29 : decode b_O_init 29 = .ok (.bipush 40, 2) := by decide +kernel
theorem d_O_init_31 : decode b_O_init 31 = .ok (.newarray .long, 2) := by decide +kernel
theorem d_O_init_33 : decode b_O_init 33 = .ok (.putfield 21, 3) := by decide +kernel
theorem d_O_init_36 : decode b_O_init 36 = .ok (.return_, 1) := by decide +kernel
theorem d_O_add_0 : decode b_O_add 0 = .ok (.aload_n 0, 1) := by decide +kernel
theorem d_O_add_1 : decode b_O_add 1 = .ok (.getfield 9, 3) := by decide +kernel
theorem d_O_add_4 : decode b_O_add 4 = .ok (.aload_n 0, 1) := by decide +kernel
theorem d_O_add_5 : decode b_O_add 5 = .ok (.getfield 25, 3) := by decide +kernel
theorem d_O_add_8 : decode b_O_add 8 = .ok (.iload_n 1, 1) := by decide +kernel
theorem d_O_add_9 : decode b_O_add 9 = .ok (.iastore, 1) := by decide +kernel
theorem d_O_add_10 : decode b_O_add 10 = .ok (.aload_n 0, 1) := by decide +kernel
theorem d_O_add_11 : decode b_O_add 11 = .ok (.getfield 15, 3) := by decide +kernel
theorem d_O_add_14 : decode b_O_add 14 = .ok (.aload_n 0, 1) := by decide +kernel
theorem d_O_add_15 : decode b_O_add 15 = .ok (.getfield 25, 3) := by decide +kernel
theorem d_O_add_18 : decode b_O_add 18 = .ok (.iload_n 2, 1) := by decide +kernel
theorem d_O_add_19 : decode b_O_add 19 = .ok (.iastore, 1) := by decide +kernel
theorem d_O_add_20 : decode b_O_add 20 = .ok (.aload_n 0, 1) := by decide +kernel
theorem d_O_add_21 : decode b_O_add 21 = .ok (.getfield 18, 3) := by decide +kernel
theorem d_O_add_24 : decode b_O_add 24 = .ok (.aload_n 0, 1) := by decide +kernel
theorem d_O_add_25 : decode b_O_add 25 = .ok (.getfield 25, 3) := by decide +kernel
theorem d_O_add_28 : decode b_O_add 28 = .ok (.iload_n 3, 1) := by decide +kernel
theorem d_O_add_29 : decode b_O_add 29 = .ok (.iastore, 1) := by decide +kernel
theorem d_O_add_30 : decode b_O_add 30 = .ok (.aload_n 0, 1) := by decide +kernel
theorem d_O_add_31 : decode b_O_add 31 = .ok (.getfield 21, 3) := by decide +kernel
theorem d_O_add_34 : decode b_O_add 34 = .ok (.aload_n 0, 1) := by decide +kernel
theorem d_O_add_35 : decode b_O_add 35 = .ok (.getfield 25, 3) := by decide +kernel
theorem d_O_add_38 : decode b_O_add 38 = .ok (.lload 4, 2) := by decide +kernel
theorem d_O_add_40 : decode b_O_add 40 = .ok (.lastore, 1) := by decide +kernel
theorem d_O_add_41 : decode b_O_add 41 = .ok (.aload_n 0, 1) := by decide +kernel
theorem d_O_add_42 : decode b_O_add 42 = .ok (.aload_n 0, 1) := by decide +kernel
theorem d_O_add_43 : decode b_O_add 43 = .ok (.getfield 25, 3) := by decide +kernel
theorem d_O_add_46 : decode b_O_add 46 = .ok (.iconst 1, 1) := by decide +kernel
theorem d_O_add_47 : decode b_O_add 47 = .ok (.iadd, 1) := by decide +kernel
theorem d_O_add_48 : decode b_O_add 48 = .ok (.bipush 40, 2) := by decide +kernel
theorem d_O_add_50 : decode b_O_add 50 = .ok (.if_icmp .ge 12, 3) := by decide +kernel
theorem d_O_add_53 : decode b_O_add 53 = .ok (.aload_n 0, 1) := by decide +kernel
theorem d_O_add_54 : decode b_O_add 54 = .ok (.getfield 25, 3) := by decide +kernel
theorem d_O_add_57 : decode b_O_add 57 = .ok (.iconst 1, 1) := by decide +kernel
theorem d_O_add_58 : decode b_O_add 58 = .ok (.iadd, 1) := by decide +kernel
theorem d_O_add_59 : decode b_O_add 59 = .ok (.goto 4, 3) := by decide +kernel
theorem d_O_add_62 : decode b_O_add 62 = .ok (.iconst 0, 1) := by decide +kernel
theorem d_O_add_63 : decode b_O_add 63 = .ok (.putfield 25, 3) := by decide +kernel
theorem d_O_add_66 : decode b_O_add 66 = .ok (.aload_n 0, 1) := by decide +kernel
theorem d_O_add_67 : decode b_O_add 67 = .ok (.dup, 1) := by decide +kernel
theorem d_O_add_68 : decode b_O_add 68 = .ok (.getfield 29, 3) := by decide +kernel
theorem d_O_add_71 : decode b_O_add 71 = .ok (.iconst 1, 1) := by decide +kernel
theorem d_O_add_72 : decode b_O_add 72 = .ok (.iadd, 1) := by decide +kernel
theorem d_O_add_73 : decode b_O_add 73 = .ok (.putfield 29, 3) := by decide +kernel
theorem d_O_add_76 : decode b_O_add 76 = .ok (.aload_n 0, 1) := by decide +kernel
theorem d_O_add_77 : decode b_O_add 77 = .ok (.iload_n 1, 1) := by decide +kernel
theorem d_O_add_78 : decode b_O_add 78 = .ok (.invokevirtual 32, 3) := by decide +kernel
theorem d_O_add_81 : decode b_O_add 81 = .ok (.return_, 1) := by decide +kernel
theorem d_O_addToCounts_0 : decode b_O_addToCounts 0 = .ok (.iload_n 1, 1) := by decide +kernel
theorem d_O_addToCounts_1 : decode b_O_addToCounts 1 = .ok (.ifCond .ne 16, 3) := by decide +kernel
theorem d_O_addToCounts_4 : decode b_O_addToCounts 4 = .ok (.aload_n 0, 1) := by decide +kernel
theorem d_O_addToCounts_5 : decode b_O_addToCounts 5 = .ok (.dup, 1) := by decide +kernel
theorem d_O_addToCounts_6 : decode b_O_addToCounts 6 = .ok (.getfield 36, 3) := by decide +kernel
theorem d_O_addToCounts_9 : decode b_O_addToCounts 9 = .ok (.iconst 1, 1) := by decide +kernel
theorem d_O_addToCounts_10 : decode b_O_addToCounts 10 = .ok (.iadd, 1) := by decide +kernel
theorem d_O_addToCounts_11 : decode b_O_addToCounts 11 = .ok (.putfield 36, 3) := by decide +kernel
theorem d_O_addToCounts_14 : decode b_O_addToCounts 14 = .ok (.goto 49, 3) := by decide +kernel
theorem d_O_addToCounts_17 : decode b_O_addToCounts 17 = .ok (.iload_n 1, 1) := by decide +kernel
theorem d_O_addToCounts_18 : decode b_O_addToCounts 18 = .ok (.iconst 4, 1) := by decide +kernel
theorem d_O_addToCounts_19 : decode b_O_addToCounts 19 = .ok (.if_icmp .ne 16, 3) := by decide +kernel
theorem d_O_addToCounts_22 : decode b_O_addToCounts 22 = .ok (.aload_n 0, 1) := by decide +kernel
theorem d_O_addToCounts_23 : decode b_O_addToCounts 23 = .ok (.dup, 1) := by decide +kernel
theorem d_O_addToCounts_24 : decode b_O_addToCounts 24 = .ok (.getfield 39, 3) := by decide +kernel
theorem d_O_addToCounts_27 : decode b_O_addToCounts 27 = .ok (.iconst 1, 1) := by decide +kernel
theorem d_O_addToCounts_28 : decode b_O_addToCounts 28 = .ok (.iadd, 1) := by decide +kernel
theorem d_O_addToCounts_29 : decode b_O_addToCounts 29 = .ok (.putfield 39, 3) := by decide +kernel
theorem d_O_addToCounts_32 : decode b_O_addToCounts 32 = .ok (.goto 31, 3) := by decide +kernel
theorem d_O_addToCounts_35 : decode b_O_addToCounts 35 = .ok (.iload_n 1, 1) := by decide +kernel
theorem d_O_addToCounts_36 : decode b_O_addToCounts 36 = .ok (.iconst 5, 1) := by decide +kernel
theorem d_O_addToCounts_37 : decode b_O_addToCounts 37 = .ok (.if_icmp .ne 16, 3) := by decide +kernel
theorem d_O_addToCounts_40 : decode b_O_addToCounts 40 = .ok (.aload_n 0, 1) := by decide +kernel
theorem d_O_addToCounts_41 : decode b_O_addToCounts 41 = .ok (.dup, 1) := by decide +kernel
theorem d_O_addToCounts_42 : decode b_O_addToCounts 42 = .ok (.getfield 42, 3) := by decide +kernel
theorem d_O_addToCounts_45 : decode b_O_addToCounts 45 = .ok (.iconst 1, 1) := by decide +kernel
theorem d_O_addToCounts_46 : decode b_O_addToCounts 46 = .ok (.iadd, 1) := by decide +kernel
theorem d_O_addToCounts_47 : decode b_O_addToCounts 47 = .ok (.putfield 42, 3) := by decide +kernel
theorem d_O_addToCounts_50 : decode b_O_addToCounts 50 = .ok (.goto 13, 3) := by decide +kernel
theorem d_O_addToCounts_53 : decode b_O_addToCounts 53 = .ok (.aload_n 0, 1) := by decide +kernel
theorem d_O_addToCounts_54 : decode b_O_addToCounts 54 = .ok (.dup, 1) := by decide +kernel
theorem d_O_addToCounts_55 : decode b_O_addToCounts 55 = .ok (.getfield 45, 3) := by decide +kernel
theorem d_O_addToCounts_58 : decode b_O_addToCounts 58 = .ok (.iconst 1, 1) := by decide +kernel
theorem d_O_addToCounts_59 : decode b_O_addToCounts 59 = .ok (.iadd, 1) := by decide +kernel
theorem d_O_addToCounts_60 : decode b_O_addToCounts 60 = .ok (.putfield 45, 3) := by decide +kernel
theorem d_O_addToCounts_63 : decode b_O_addToCounts 63 = .ok (.return_, 1) := by decide +kernel
theorem d_O_spotOf_0 : decode b_O_spotOf 0 = .ok (.iload_n 1, 1) := by decide +kernel
theorem d_O_spotOf_1 : decode b_O_spotOf 1 = .ok (.ifCond .lt 17, 3) := by decide +kernel
theorem d_O_spotOf_4 : decode b_O_spotOf 4 = .ok (.iload_n 1, 1) := by decide +kernel
theorem d_O_spotOf_5 : decode b_O_spotOf 5 = .ok (.bipush 40, 2) := by decide +kernel
theorem d_O_spotOf_7 : decode b_O_spotOf 7 = .ok (.if_icmp .ge 11, 3) := by decide +kernel
theorem d_O_spotOf_10 : decode b_O_spotOf 10 = .ok (.iload_n 1, 1) := by decide +kernel
theorem d_O_spotOf_11 : decode b_O_spotOf 11 = .ok (.aload_n 0, 1) := by decide +kernel
theorem d_O_spotOf_12 : decode b_O_spotOf 12 = .ok (.getfield 29, 3) := by decide +kernel
theorem d_O_spotOf_15 : decode b_O_spotOf 15 = .ok (.if_icmp .lt 5, 3) := by decide +kernel
theorem d_O_spotOf_18 : decode b_O_spotOf 18 = .ok (.iconst (-1), 1) := by decide +kernel
theorem d_O_spotOf_19 : decode b_O_spotOf 19 = .ok (.ireturn, 1) := by decide +kernel
theorem d_O_spotOf_20 : decode b_O_spotOf 20 = .ok (.aload_n 0, 1) := by decide +kernel
theorem d_O_spotOf_21 : decode b_O_spotOf 21 = .ok (.getfield 25, 3) := by decide +kernel
theorem d_O_spotOf_24 : decode b_O_spotOf 24 = .ok (.iconst 1, 1) := by decide +kernel
theorem d_O_spotOf_25 : decode b_O_spotOf 25 = .ok (.isub, 1) := by decide +kernel
theorem d_O_spotOf_26 : decode b_O_spotOf 26 = .ok (.iload_n 1, 1) := by decide +kernel
theorem d_O_spotOf_27 : decode b_O_spotOf 27 = .ok (.isub, 1) := by decide +kernel
theorem d_O_spotOf_28 : decode b_O_spotOf 28 = .ok (.istore_n 2, 1) := by decide +kernel
theorem d_O_spotOf_29 : decode b_O_spotOf 29 = .ok (.iload_n 2, 1) := by decide +kernel
theorem d_O_spotOf_30 : decode b_O_spotOf 30 = .ok (.ifCond .ge 10, 3) := by decide +kernel
theorem d_O_spotOf_33 : decode b_O_spotOf 33 = .ok (.iload_n 2, 1) := by decide +kernel
theorem d_O_spotOf_34 : decode b_O_spotOf 34 = .ok (.bipush 40, 2) := by decide +kernel
theorem d_O_spotOf_36 : decode b_O_spotOf 36 = .ok (.iadd, 1) := by decide +kernel
theorem d_O_spotOf_37 : decode b_O_spotOf 37 = .ok (.goto 4, 3) := by decide +kernel
theorem d_O_spotOf_40 : decode b_O_spotOf 40 = .ok (.iload_n 2, 1) := by decide +kernel
theorem d_O_spotOf_41 : decode b_O_spotOf 41 = .ok (.ireturn, 1) := by decide +kernel
end
section
theorem d_X_init_0 : decode b_X_init 0 = .ok (.aload_n 0, 1) := by decide +kernel
theorem d_X_init_1 : decode b_X_init 1 = .ok (.invokespecial 1, 3) := by decide +kernel
theorem d_X_init_4 : decode b_X_init 4 = .ok (.aload_n 0, 1) := by decide +kernel
theorem d_X_init_5 : decode b_X_init 5 = .ok (.bipush 60, 2) := by decide +kernel
theorem d_X_init_7 : decode b_X_init 7 = .ok (.anewarray 9, 3) := by decide +kernel
theorem d_X_init_10 : decode b_X_init 10 = .ok (.putfield 11, 3) := by decide +kernel
theorem d_X_init_13 : decode b_X_init 13 = .ok (.aload_n 0, 1) := by decide +kernel
theorem d_X_init_14 : decode b_X_init 14 = .ok (.iconst 0, 1) := by decide +kernel
theorem d_X_init_15 : decode b_X_init 15 = .ok (.putfield 15, 3) := by decide +kernel
theorem d_X_init_18 : decode b_X_init 18 = .ok (.aload_n 0, 1) := by decide +kernel
theorem d_X_init_19 : decode b_X_init 19 = .ok (.new 19, 3) := by decide +kernel
theorem d_X_init_22 : decode b_X_init 22 = .ok (.dup, 1) := by decide +kernel
theorem d_X_init_23 : decode b_X_init 23 = .ok (.invokespecial 21, 3) := by decide +kernel
theorem d_X_init_26 : decode b_X_init 26 = .ok (.putfield 22, 3) := by decide +kernel
theorem d_X_init_29 : decode b_X_init 29 = .ok (.aload_n 0, 1) := by decide +kernel
theorem d_X_init_30 : decode b_X_init 30 = .ok (.bipush 12, 2) := by decide +kernel
theorem d_X_init_32 : decode b_X_init 32 = .ok (.anewarray 26, 3) := by decide +kernel
theorem d_X_init_35 : decode b_X_init 35 = .ok (.putfield 28, 3) := by decide +kernel
theorem d_X_init_38 : decode b_X_init 38 = .ok (.aload_n 0, 1) := by decide +kernel
theorem d_X_init_39 : decode b_X_init 39 = .ok (.new 32, 3) := by decide +kernel
theorem d_X_init_42 : decode b_X_init 42 = .ok (.dup, 1) := by decide +kernel
theorem d_X_init_43 : decode b_X_init 43 = .ok (.invokespecial 34, 3) := by decide +kernel
theorem d_X_init_46 : decode b_X_init 46 = .ok (.putfield 35, 3) := by decide +kernel
theorem d_X_init_49 : decode b_X_init 49 = .ok (.return_, 1) := by decide +kernel
theorem d_X_make_0 : decode b_X_make 0 = .ok (.iload_n 1, 1) := by decide +kernel
theorem d_X_make_1 : decode b_X_make 1 = .ok (.invokestatic 39, 3) := by decide +kernel
theorem d_X_make_4 : decode b_X_make 4 = .ok (.ifCond .eq 12, 3) := by decide +kernel
theorem d_X_make_7 : decode b_X_make 7 = .ok (.aload_n 0, 1) := by decide +kernel
theorem d_X_make_8 : decode b_X_make 8 = .ok (.getfield 15, 3) := by decide +kernel
theorem d_X_make_11 : decode b_X_make 11 = .ok (.bipush 60, 2) := by decide +kernel
theorem d_X_make_13 : decode b_X_make 13 = .ok (.if_icmp .lt 5, 3) := by decide +kernel
theorem d_X_make_16 : decode b_X_make 16 = .ok (.iconst (-1), 1) := by decide +kernel
theorem d_X_make_17 : decode b_X_make 17 = .ok (.ireturn, 1) := by decide +kernel
theorem d_X_make_18 : decode b_X_make 18 = .ok (.iload_n 1, 1) := by decide +kernel
theorem d_X_make_19 : decode b_X_make 19 = .ok (.ifCond .ne 28, 3) := by decide +kernel
theorem d_X_make_22 : decode b_X_make 22 = .ok (.aload_n 0, 1) := by decide +kernel
theorem d_X_make_23 : decode b_X_make 23 = .ok (.new 9, 3) := by decide +kernel
theorem d_X_make_26 : decode b_X_make 26 = .ok (.dup, 1) := by decide +kernel
theorem d_X_make_27 : decode b_X_make 27 = .ok (.iconst 0, 1) := by decide +kernel
theorem d_X_make_28 : decode b_X_make 28 = .ok (.iconst (-1), 1) := by decide +kernel
theorem d_X_make_29 : decode b_X_make 29 = .ok (.aload_n 0, 1) := by decide +kernel
theorem d_X_make_30 : decode b_X_make 30 = .ok (.getfield 15, 3) := by decide +kernel
theorem d_X_make_33 : decode b_X_make 33 = .ok (.new 43, 3) := by decide +kernel
theorem d_X_make_36 : decode b_X_make 36 = .ok (.dup, 1) := by decide +kernel
theorem d_X_make_37 : decode b_X_make 37 = .ok (.invokespecial 45, 3) := by decide +kernel
theorem d_X_make_40 : decode b_X_make 40 = .ok (.invokespecial 46, 3) := by decide +kernel
theorem d_X_make_43 : decode b_X_make 43 = .ok (.invokevirtual 49, 3) := by decide +kernel
theorem d_X_make_46 : decode b_X_make 46 = .ok (.ireturn, 1) := by decide +kernel
theorem d_X_make_47 : decode b_X_make 47 = .ok (.aload_n 0, 1) := by decide +kernel
theorem d_X_make_48 : decode b_X_make 48 = .ok (.iload_n 2, 1) := by decide +kernel
theorem d_X_make_49 : decode b_X_make 49 = .ok (.invokevirtual 53, 3) := by decide +kernel
theorem d_X_make_52 : decode b_X_make 52 = .ok (.astore_n 3, 1) := by decide +kernel
theorem d_X_make_53 : decode b_X_make 53 = .ok (.aload_n 3, 1) := by decide +kernel
theorem d_X_make_54 : decode b_X_make 54 = .ok (.ifnull 25, 3) := by decide +kernel
theorem d_X_make_57 : decode b_X_make 57 = .ok (.aload_n 3, 1) := by decide +kernel
theorem d_X_make_58 : decode b_X_make 58 = .ok (.getfield 57, 3) := by decide +kernel
theorem d_X_make_61 : decode b_X_make 61 = .ok (.getstatic 60, 3) := by decide +kernel
theorem d_X_make_64 : decode b_X_make 64 = .ok (.iload_n 1, 1) := by decide +kernel
theorem d_X_make_65 : decode b_X_make 65 = .ok (.iaload, 1) := by decide +kernel
theorem d_X_make_66 : decode b_X_make 66 = .ok (.if_icmp .ne 13, 3) := by decide +kernel
theorem d_X_make_69 : decode b_X_make 69 = .ok (.aload_n 3, 1) := by decide +kernel
theorem d_X_make_70 : decode b_X_make 70 = .ok (.getfield 64, 3) := by decide +kernel
theorem d_X_make_73 : decode b_X_make 73 = .ok (.invokevirtual 68, 3) := by decide +kernel
theorem d_X_make_76 : decode b_X_make 76 = .ok (.ifCond .eq 5, 3) := by decide +kernel
theorem d_X_make_79 : decode b_X_make 79 = .ok (.iconst (-1), 1) := by decide +kernel
theorem d_X_make_80 : decode b_X_make 80 = .ok (.ireturn, 1) := by decide +kernel
theorem d_X_make_81 : decode b_X_make 81 = .ok (.aload_n 0, 1) := by decide +kernel
theorem d_X_make_82 : decode b_X_make 82 = .ok (.new 9, 3) := by decide +kernel
theorem d_X_make_85 : decode b_X_make 85 = .ok (.dup, 1) := by decide +kernel
theorem d_X_make_86 : decode b_X_make 86 = .ok (.iload_n 1, 1) := by decide +kernel
theorem d_X_make_87 : decode b_X_make 87 = .ok (.iload_n 2, 1) := by decide +kernel
theorem d_X_make_88 : decode b_X_make 88 = .ok (.aload_n 3, 1) := by decide +kernel
theorem d_X_make_89 : decode b_X_make 89 = .ok (.getfield 72, 3) := by decide +kernel
theorem d_X_make_92 : decode b_X_make 92 = .ok (.aload_n 3, 1) := by decide +kernel
theorem d_X_make_93 : decode b_X_make 93 = .ok (.getfield 64, 3) := by decide +kernel
theorem d_X_make_96 : decode b_X_make 96 = .ok (.invokespecial 46, 3) := by decide +kernel
theorem d_X_make_99 : decode b_X_make 99 = .ok (.invokevirtual 49, 3) := by decide +kernel
theorem d_X_make_102 : decode b_X_make 102 = .ok (.ireturn, 1) := by decide +kernel
theorem d_X_drop_0 : decode b_X_drop 0 = .ok (.aload_n 0, 1) := by decide +kernel
theorem d_X_drop_1 : decode b_X_drop 1 = .ok (.iload_n 1, 1) := by decide +kernel
theorem d_X_drop_2 : decode b_X_drop 2 = .ok (.invokevirtual 53, 3) := by decide +kernel
theorem d_X_drop_5 : decode b_X_drop 5 = .ok (.astore_n 2, 1) := by decide +kernel
theorem d_X_drop_6 : decode b_X_drop 6 = .ok (.aload_n 2, 1) := by decide +kernel
theorem d_X_drop_7 : decode b_X_drop 7 = .ok (.ifnull 13, 3) := by decide +kernel
theorem d_X_drop_10 : decode b_X_drop 10 = .ok (.aload_n 2, 1) := by decide +kernel
theorem d_X_drop_11 : decode b_X_drop 11 = .ok (.getfield 64, 3) := by decide +kernel
theorem d_X_drop_14 : decode b_X_drop 14 = .ok (.invokevirtual 68, 3) := by decide +kernel
theorem d_X_drop_17 : decode b_X_drop 17 = .ok (.ifCond .eq 5, 3) := by decide +kernel
theorem d_X_drop_20 : decode b_X_drop 20 = .ok (.iconst (-1), 1) := by decide +kernel
theorem d_X_drop_21 : decode b_X_drop 21 = .ok (.ireturn, 1) := by decide +kernel
theorem d_X_drop_22 : decode b_X_drop 22 = .ok (.aload_n 0, 1) := by decide +kernel
theorem d_X_drop_23 : decode b_X_drop 23 = .ok (.getfield 11, 3) := by decide +kernel
theorem d_X_drop_26 : decode b_X_drop 26 = .ok (.iload_n 1, 1) := by decide +kernel
theorem d_X_drop_27 : decode b_X_drop 27 = .ok (.aconst_null, 1) := by decide +kernel
theorem d_X_drop_28 : decode b_X_drop 28 = .ok (.aastore, 1) := by decide +kernel
theorem d_X_drop_29 : decode b_X_drop 29 = .ok (.iconst 1, 1) := by decide +kernel
theorem d_X_drop_30 : decode b_X_drop 30 = .ok (.istore_n 3, 1) := by decide +kernel
theorem d_X_drop_31 : decode b_X_drop 31 = .ok (.iload_n 1, 1) := by decide +kernel
theorem d_X_drop_32 : decode b_X_drop 32 = .ok (.iconst 1, 1) := by decide +kernel
theorem d_X_drop_33 : decode b_X_drop 33 = .ok (.iadd, 1) := by decide +kernel
theorem d_X_drop_34 : decode b_X_drop 34 = .ok (.istore 4, 2) := by decide +kernel
theorem d_X_drop_36 : decode b_X_drop 36 = .ok (.iload 4, 2) := by decide +kernel
theorem d_X_drop_38 : decode b_X_drop 38 = .ok (.aload_n 0, 1) := by decide +kernel
theorem d_X_drop_39 : decode b_X_drop 39 = .ok (.getfield 15, 3) := by decide +kernel
theorem d_X_drop_42 : decode b_X_drop 42 = .ok (.if_icmp .ge 34, 3) := by decide +kernel
theorem d_X_drop_45 : decode b_X_drop 45 = .ok (.aload_n 0, 1) := by decide +kernel
theorem d_X_drop_46 : decode b_X_drop 46 = .ok (.aload_n 0, 1) := by decide +kernel
theorem d_X_drop_47 : decode b_X_drop 47 = .ok (.getfield 11, 3) := by decide +kernel
theorem d_X_drop_50 : decode b_X_drop 50 = .ok (.iload 4, 2) := by decide +kernel
theorem d_X_drop_52 : decode b_X_drop 52 = .ok (.aaload, 1) := by decide +kernel
theorem d_X_drop_53 : decode b_X_drop 53 = .ok (.invokevirtual 75, 3) := by decide +kernel
theorem d_X_drop_56 : decode b_X_drop 56 = .ok (.ifCond .eq 14, 3) := by decide +kernel
theorem d_X_drop_59 : decode b_X_drop 59 = .ok (.aload_n 0, 1) := by decide +kernel
theorem d_X_drop_60 : decode b_X_drop 60 = .ok (.getfield 11, 3) := by decide +kernel
theorem d_X_drop_63 : decode b_X_drop 63 = .ok (.iload 4, 2) := by decide +kernel
theorem d_X_drop_65 : decode b_X_drop 65 = .ok (.aconst_null, 1) := by decide +kernel
theorem d_X_drop_66 : decode b_X_drop 66 = .ok (.aastore, 1) := by decide +kernel
theorem d_X_drop_67 : decode b_X_drop 67 = .ok (.iinc 3 1, 3) := by decide +kernel
theorem d_X_drop_70 : decode b_X_drop 70 = .ok (.iinc 4 1, 3) := by decide +kernel
theorem d_X_drop_73 : decode b_X_drop 73 = .ok (.goto (-37), 3) := by decide +kernel
theorem d_X_drop_76 : decode b_X_drop 76 = .ok (.iload_n 3, 1) := by decide +kernel
theorem d_X_drop_77 : decode b_X_drop 77 = .ok (.ireturn, 1) := by decide +kernel
theorem d_X_numbers_0 : decode b_X_numbers 0 = .ok (.iload_n 1, 1) := by decide +kernel
theorem d_X_numbers_1 : decode b_X_numbers 1 = .ok (.invokestatic 39, 3) := by decide +kernel
theorem d_X_numbers_4 : decode b_X_numbers 4 = .ok (.ifCond .ne 5, 3) := by decide +kernel
theorem d_X_numbers_7 : decode b_X_numbers 7 = .ok (.iconst (-1), 1) := by decide +kernel
theorem d_X_numbers_8 : decode b_X_numbers 8 = .ok (.ireturn, 1) := by decide +kernel
theorem d_X_numbers_9 : decode b_X_numbers 9 = .ok (.iconst 0, 1) := by decide +kernel
theorem d_X_numbers_10 : decode b_X_numbers 10 = .ok (.istore_n 2, 1) := by decide +kernel
theorem d_X_numbers_11 : decode b_X_numbers 11 = .ok (.iconst 0, 1) := by decide +kernel
theorem d_X_numbers_12 : decode b_X_numbers 12 = .ok (.istore_n 3, 1) := by decide +kernel
theorem d_X_numbers_13 : decode b_X_numbers 13 = .ok (.iload_n 3, 1) := by decide +kernel
theorem d_X_numbers_14 : decode b_X_numbers 14 = .ok (.aload_n 0, 1) := by decide +kernel
theorem d_X_numbers_15 : decode b_X_numbers 15 = .ok (.getfield 15, 3) := by decide +kernel
theorem d_X_numbers_18 : decode b_X_numbers 18 = .ok (.if_icmp .ge 34, 3) := by decide +kernel
theorem d_X_numbers_21 : decode b_X_numbers 21 = .ok (.aload_n 0, 1) := by decide +kernel
theorem d_X_numbers_22 : decode b_X_numbers 22 = .ok (.getfield 11, 3) := by decide +kernel
theorem d_X_numbers_25 : decode b_X_numbers 25 = .ok (.iload_n 3, 1) := by decide +kernel
theorem d_X_numbers_26 : decode b_X_numbers 26 = .ok (.aaload, 1) := by decide +kernel
theorem d_X_numbers_27 : decode b_X_numbers 27 = .ok (.ifnull 19, 3) := by decide +kernel
theorem d_X_numbers_30 : decode b_X_numbers 30 = .ok (.aload_n 0, 1) := by decide +kernel
theorem d_X_numbers_31 : decode b_X_numbers 31 = .ok (.getfield 11, 3) := by decide +kernel
theorem d_X_numbers_34 : decode b_X_numbers 34 = .ok (.iload_n 3, 1) := by decide +kernel
theorem d_X_numbers_35 : decode b_X_numbers 35 = .ok (.aaload, 1) := by decide +kernel
theorem d_X_numbers_36 : decode b_X_numbers 36 = .ok (.getfield 57, 3) := by decide +kernel
theorem d_X_numbers_39 : decode b_X_numbers 39 = .ok (.iload_n 1, 1) := by decide +kernel
theorem d_X_numbers_40 : decode b_X_numbers 40 = .ok (.if_icmp .ne 6, 3) := by decide +kernel
theorem d_X_numbers_43 : decode b_X_numbers 43 = .ok (.iinc 2 1, 3) := by decide +kernel
theorem d_X_numbers_46 : decode b_X_numbers 46 = .ok (.iinc 3 1, 3) := by decide +kernel
theorem d_X_numbers_49 : decode b_X_numbers 49 = .ok (.goto (-36), 3) := by decide +kernel
theorem d_X_numbers_52 : decode b_X_numbers 52 = .ok (.iload_n 2, 1) := by decide +kernel
theorem d_X_numbers_53 : decode b_X_numbers 53 = .ok (.ireturn, 1) := by decide +kernel
theorem d_X_about_0 : decode b_X_about 0 = .ok (.aload_n 0, 1) := by decide +kernel
theorem d_X_about_1 : decode b_X_about 1 = .ok (.iload_n 1, 1) := by decide +kernel
theorem d_X_about_2 : decode b_X_about 2 = .ok (.invokevirtual 53, 3) := by decide +kernel
theorem d_X_about_5 : decode b_X_about 5 = .ok (.astore_n 3, 1) := by decide +kernel
theorem d_X_about_6 : decode b_X_about 6 = .ok (.aload_n 3, 1) := by decide +kernel
theorem d_X_about_7 : decode b_X_about 7 = .ok (.ifnonnull 5, 3) := by decide +kernel
theorem d_X_about_10 : decode b_X_about 10 = .ok (.iconst (-1), 1) := by decide +kernel
theorem d_X_about_11 : decode b_X_about 11 = .ok (.ireturn, 1) := by decide +kernel
theorem d_X_about_12 : decode b_X_about 12 = .ok (.iload_n 2, 1) := by decide +kernel
theorem d_X_about_13 : decode b_X_about 13 = .ok (.tableswitch 52 0 3 #[31, 36, 41, 46], 31) := by decide +kernel
theorem d_X_about_44 : decode b_X_about 44 = .ok (.aload_n 3, 1) := by decide +kernel
theorem d_X_about_45 : decode b_X_about 45 = .ok (.getfield 57, 3) := by decide +kernel
theorem d_X_about_48 : decode b_X_about 48 = .ok (.ireturn, 1) := by decide +kernel
theorem d_X_about_49 : decode b_X_about 49 = .ok (.aload_n 3, 1) := by decide +kernel
theorem d_X_about_50 : decode b_X_about 50 = .ok (.getfield 79, 3) := by decide +kernel
theorem d_X_about_53 : decode b_X_about 53 = .ok (.ireturn, 1) := by decide +kernel
theorem d_X_about_54 : decode b_X_about 54 = .ok (.aload_n 3, 1) := by decide +kernel
theorem d_X_about_55 : decode b_X_about 55 = .ok (.getfield 72, 3) := by decide +kernel
theorem d_X_about_58 : decode b_X_about 58 = .ok (.ireturn, 1) := by decide +kernel
theorem d_X_about_59 : decode b_X_about 59 = .ok (.aload_n 0, 1) := by decide +kernel
theorem d_X_about_60 : decode b_X_about 60 = .ok (.iload_n 1, 1) := by decide +kernel
theorem d_X_about_61 : decode b_X_about 61 = .ok (.invokevirtual 82, 3) := by decide +kernel
theorem d_X_about_64 : decode b_X_about 64 = .ok (.ireturn, 1) := by decide +kernel
theorem d_X_about_65 : decode b_X_about 65 = .ok (.iconst (-1), 1) := by decide +kernel
theorem d_X_about_66 : decode b_X_about 66 = .ok (.ireturn, 1) := by decide +kernel
theorem d_X_collect_0 : decode b_X_collect 0 = .ok (.iload_n 1, 1) := by decide +kernel
theorem d_X_collect_1 : decode b_X_collect 1 = .ok (.invokestatic 86, 3) := by decide +kernel
theorem d_X_collect_4 : decode b_X_collect 4 = .ok (.ifCond .eq 22, 3) := by decide +kernel
theorem d_X_collect_7 : decode b_X_collect 7 = .ok (.iload_n 1, 1) := by decide +kernel
theorem d_X_collect_8 : decode b_X_collect 8 = .ok (.iload_n 2, 1) := by decide +kernel
theorem d_X_collect_9 : decode b_X_collect 9 = .ok (.invokestatic 89, 3) := by decide +kernel
theorem d_X_collect_12 : decode b_X_collect 12 = .ok (.ifCond .eq 14, 3) := by decide +kernel
theorem d_X_collect_15 : decode b_X_collect 15 = .ok (.aload_n 0, 1) := by decide +kernel
theorem d_X_collect_16 : decode b_X_collect 16 = .ok (.getfield 22, 3) := by decide +kernel
theorem d_X_collect_19 : decode b_X_collect 19 = .ok (.iload_n 1, 1) := by decide +kernel
theorem d_X_collect_20 : decode b_X_collect 20 = .ok (.invokevirtual 93, 3) := by decide +kernel
theorem d_X_collect_23 : decode b_X_collect 23 = .ok (.ifCond .eq 5, 3) := by decide +kernel
theorem d_X_collect_26 : decode b_X_collect 26 = .ok (.iconst (-1), 1) := by decide +kernel
theorem d_X_collect_27 : decode b_X_collect 27 = .ok (.ireturn, 1) := by decide +kernel
theorem d_X_collect_28 : decode b_X_collect 28 = .ok (.aload_n 0, 1) := by decide +kernel
theorem d_X_collect_29 : decode b_X_collect 29 = .ok (.getfield 22, 3) := by decide +kernel
theorem d_X_collect_32 : decode b_X_collect 32 = .ok (.iload_n 1, 1) := by decide +kernel
theorem d_X_collect_33 : decode b_X_collect 33 = .ok (.iload_n 2, 1) := by decide +kernel
theorem d_X_collect_34 : decode b_X_collect 34 = .ok (.invokevirtual 96, 3) := by decide +kernel
theorem d_X_collect_37 : decode b_X_collect 37 = .ok (.aload_n 0, 1) := by decide +kernel
theorem d_X_collect_38 : decode b_X_collect 38 = .ok (.getfield 22, 3) := by decide +kernel
theorem d_X_collect_41 : decode b_X_collect 41 = .ok (.iload_n 1, 1) := by decide +kernel
theorem d_X_collect_42 : decode b_X_collect 42 = .ok (.invokevirtual 100, 3) := by decide +kernel
theorem d_X_collect_45 : decode b_X_collect 45 = .ok (.ireturn, 1) := by decide +kernel
theorem d_X_collected_0 : decode b_X_collected 0 = .ok (.iload_n 1, 1) := by decide +kernel
theorem d_X_collected_1 : decode b_X_collected 1 = .ok (.invokestatic 86, 3) := by decide +kernel
theorem d_X_collected_4 : decode b_X_collected 4 = .ok (.ifCond .eq 14, 3) := by decide +kernel
theorem d_X_collected_7 : decode b_X_collected 7 = .ok (.aload_n 0, 1) := by decide +kernel
theorem d_X_collected_8 : decode b_X_collected 8 = .ok (.getfield 22, 3) := by decide +kernel
theorem d_X_collected_11 : decode b_X_collected 11 = .ok (.iload_n 1, 1) := by decide +kernel
theorem d_X_collected_12 : decode b_X_collected 12 = .ok (.invokevirtual 100, 3) := by decide +kernel
theorem d_X_collected_15 : decode b_X_collected 15 = .ok (.goto 4, 3) := by decide +kernel
theorem d_X_collected_18 : decode b_X_collected 18 = .ok (.iconst (-1), 1) := by decide +kernel
theorem d_X_collected_19 : decode b_X_collected 19 = .ok (.ireturn, 1) := by decide +kernel
theorem d_X_define_0 : decode b_X_define 0 = .ok (.iload_n 1, 1) := by decide +kernel
theorem d_X_define_1 : decode b_X_define 1 = .ok (.invokestatic 103, 3) := by decide +kernel
theorem d_X_define_4 : decode b_X_define 4 = .ok (.ifCond .eq 30, 3) := by decide +kernel
theorem d_X_define_7 : decode b_X_define 7 = .ok (.iload_n 2, 1) := by decide +kernel
theorem d_X_define_8 : decode b_X_define 8 = .ok (.invokestatic 39, 3) := by decide +kernel
theorem d_X_define_11 : decode b_X_define 11 = .ok (.ifCond .eq 23, 3) := by decide +kernel
theorem d_X_define_14 : decode b_X_define 14 = .ok (.iload_n 3, 1) := by decide +kernel
theorem d_X_define_15 : decode b_X_define 15 = .ok (.iconst (-1), 1) := by decide +kernel
theorem d_X_define_16 : decode b_X_define 16 = .ok (.if_icmp .eq 10, 3) := by decide +kernel
theorem d_X_define_19 : decode b_X_define 19 = .ok (.iload_n 3, 1) := by decide +kernel
theorem d_X_define_20 : decode b_X_define 20 = .ok (.invokestatic 86, 3) := by decide +kernel
theorem d_X_define_23 : decode b_X_define 23 = .ok (.ifCond .eq 11, 3) := by decide +kernel
theorem d_X_define_26 : decode b_X_define 26 = .ok (.lload 4, 2) := by decide +kernel
theorem d_X_define_28 : decode b_X_define 28 = .ok (.lload 6, 2) := by decide +kernel
theorem d_X_define_30 : decode b_X_define 30 = .ok (.lcmp, 1) := by decide +kernel
theorem d_X_define_31 : decode b_X_define 31 = .ok (.ifCond .le 5, 3) := by decide +kernel
theorem d_X_define_34 : decode b_X_define 34 = .ok (.iconst 0, 1) := by decide +kernel
theorem d_X_define_35 : decode b_X_define 35 = .ok (.ireturn, 1) := by decide +kernel
theorem d_X_define_36 : decode b_X_define 36 = .ok (.aload_n 0, 1) := by decide +kernel
theorem d_X_define_37 : decode b_X_define 37 = .ok (.getfield 28, 3) := by decide +kernel
theorem d_X_define_40 : decode b_X_define 40 = .ok (.iload_n 1, 1) := by decide +kernel
theorem d_X_define_41 : decode b_X_define 41 = .ok (.aaload, 1) := by decide +kernel
theorem d_X_define_42 : decode b_X_define 42 = .ok (.ifnonnull 16, 3) := by decide +kernel
theorem d_X_define_45 : decode b_X_define 45 = .ok (.aload_n 0, 1) := by decide +kernel
theorem d_X_define_46 : decode b_X_define 46 = .ok (.getfield 28, 3) := by decide +kernel
theorem d_X_define_49 : decode b_X_define 49 = .ok (.iload_n 1, 1) := by decide +kernel
theorem d_X_define_50 : decode b_X_define 50 = .ok (.new 26, 3) := by decide +kernel
theorem d_X_define_53 : decode b_X_define 53 = .ok (.dup, 1) := by decide +kernel
theorem d_X_define_54 : decode b_X_define 54 = .ok (.invokespecial 106, 3) := by decide +kernel
theorem d_X_define_57 : decode b_X_define 57 = .ok (.aastore, 1) := by decide +kernel
theorem d_X_define_58 : decode b_X_define 58 = .ok (.aload_n 0, 1) := by decide +kernel
theorem d_X_define_59 : decode b_X_define 59 = .ok (.getfield 28, 3) := by decide +kernel
theorem d_X_define_62 : decode b_X_define 62 = .ok (.iload_n 1, 1) := by decide +kernel
theorem d_X_define_63 : decode b_X_define 63 = .ok (.aaload, 1) := by decide +kernel
theorem d_X_define_64 : decode b_X_define 64 = .ok (.iload_n 2, 1) := by decide +kernel
theorem d_X_define_65 : decode b_X_define 65 = .ok (.iload_n 3, 1) := by decide +kernel
theorem d_X_define_66 : decode b_X_define 66 = .ok (.lload 4, 2) := by decide +kernel
theorem d_X_define_68 : decode b_X_define 68 = .ok (.lload 6, 2) := by decide +kernel
theorem d_X_define_70 : decode b_X_define 70 = .ok (.invokevirtual 107, 3) := by decide +kernel
theorem d_X_define_73 : decode b_X_define 73 = .ok (.iconst 1, 1) := by decide +kernel
theorem d_X_define_74 : decode b_X_define 74 = .ok (.ireturn, 1) := by decide +kernel
theorem d_X_answer_0 : decode b_X_answer 0 = .ok (.aload_n 0, 1) := by decide +kernel
theorem d_X_answer_1 : decode b_X_answer 1 = .ok (.iload_n 1, 1) := by decide +kernel
theorem d_X_answer_2 : decode b_X_answer 2 = .ok (.invokevirtual 111, 3) := by decide +kernel
theorem d_X_answer_5 : decode b_X_answer 5 = .ok (.astore 4, 2) := by decide +kernel
theorem d_X_answer_7 : decode b_X_answer 7 = .ok (.aload 4, 2) := by decide +kernel
theorem d_X_answer_9 : decode b_X_answer 9 = .ok (.ifnull 12, 3) := by decide +kernel
theorem d_X_answer_12 : decode b_X_answer 12 = .ok (.aload 4, 2) := by decide +kernel
theorem d_X_answer_14 : decode b_X_answer 14 = .ok (.getfield 115, 3) := by decide +kernel
theorem d_X_answer_17 : decode b_X_answer 17 = .ok (.iconst 5, 1) := by decide +kernel
theorem d_X_answer_18 : decode b_X_answer 18 = .ok (.if_icmp .lt 5, 3) := by decide +kernel
theorem d_X_answer_21 : decode b_X_answer 21 = .ok (.iconst (-1), 1) := by decide +kernel
theorem d_X_answer_22 : decode b_X_answer 22 = .ok (.ireturn, 1) := by decide +kernel
theorem d_X_answer_23 : decode b_X_answer 23 = .ok (.aload 4, 2) := by decide +kernel
theorem d_X_answer_25 : decode b_X_answer 25 = .ok (.lload_n 2, 1) := by decide +kernel
theorem d_X_answer_26 : decode b_X_answer 26 = .ok (.invokevirtual 118, 3) := by decide +kernel
theorem d_X_answer_29 : decode b_X_answer 29 = .ok (.aload 4, 2) := by decide +kernel
theorem d_X_answer_31 : decode b_X_answer 31 = .ok (.getfield 115, 3) := by decide +kernel
theorem d_X_answer_34 : decode b_X_answer 34 = .ok (.ireturn, 1) := by decide +kernel
theorem d_X_fails_0 : decode b_X_fails 0 = .ok (.aload_n 0, 1) := by decide +kernel
theorem d_X_fails_1 : decode b_X_fails 1 = .ok (.iload_n 1, 1) := by decide +kernel
theorem d_X_fails_2 : decode b_X_fails 2 = .ok (.invokevirtual 111, 3) := by decide +kernel
theorem d_X_fails_5 : decode b_X_fails 5 = .ok (.astore 4, 2) := by decide +kernel
theorem d_X_fails_7 : decode b_X_fails 7 = .ok (.aload 4, 2) := by decide +kernel
theorem d_X_fails_9 : decode b_X_fails 9 = .ok (.ifnull 23, 3) := by decide +kernel
theorem d_X_fails_12 : decode b_X_fails 12 = .ok (.iload_n 2, 1) := by decide +kernel
theorem d_X_fails_13 : decode b_X_fails 13 = .ok (.iconst 1, 1) := by decide +kernel
theorem d_X_fails_14 : decode b_X_fails 14 = .ok (.if_icmp .lt 18, 3) := by decide +kernel
theorem d_X_fails_17 : decode b_X_fails 17 = .ok (.iload_n 2, 1) := by decide +kernel
theorem d_X_fails_18 : decode b_X_fails 18 = .ok (.iconst 3, 1) := by decide +kernel
theorem d_X_fails_19 : decode b_X_fails 19 = .ok (.if_icmp .gt 13, 3) := by decide +kernel
theorem d_X_fails_22 : decode b_X_fails 22 = .ok (.iload_n 3, 1) := by decide +kernel
theorem d_X_fails_23 : decode b_X_fails 23 = .ok (.ifCond .lt 9, 3) := by decide +kernel
theorem d_X_fails_26 : decode b_X_fails 26 = .ok (.iload_n 3, 1) := by decide +kernel
theorem d_X_fails_27 : decode b_X_fails 27 = .ok (.bipush 9, 2) := by decide +kernel
theorem d_X_fails_29 : decode b_X_fails 29 = .ok (.if_icmp .le 5, 3) := by decide +kernel
theorem d_X_fails_32 : decode b_X_fails 32 = .ok (.iconst 0, 1) := by decide +kernel
theorem d_X_fails_33 : decode b_X_fails 33 = .ok (.ireturn, 1) := by decide +kernel
theorem d_X_fails_34 : decode b_X_fails 34 = .ok (.aload 4, 2) := by decide +kernel
theorem d_X_fails_36 : decode b_X_fails 36 = .ok (.iload_n 2, 1) := by decide +kernel
theorem d_X_fails_37 : decode b_X_fails 37 = .ok (.putfield 122, 3) := by decide +kernel
theorem d_X_fails_40 : decode b_X_fails 40 = .ok (.aload 4, 2) := by decide +kernel
theorem d_X_fails_42 : decode b_X_fails 42 = .ok (.iload_n 3, 1) := by decide +kernel
theorem d_X_fails_43 : decode b_X_fails 43 = .ok (.putfield 125, 3) := by decide +kernel
theorem d_X_fails_46 : decode b_X_fails 46 = .ok (.iconst 1, 1) := by decide +kernel
theorem d_X_fails_47 : decode b_X_fails 47 = .ok (.ireturn, 1) := by decide +kernel
theorem d_X_call_0 : decode b_X_call 0 = .ok (.aload_n 0, 1) := by decide +kernel
theorem d_X_call_1 : decode b_X_call 1 = .ok (.iload_n 1, 1) := by decide +kernel
theorem d_X_call_2 : decode b_X_call 2 = .ok (.invokevirtual 111, 3) := by decide +kernel
theorem d_X_call_5 : decode b_X_call 5 = .ok (.astore 5, 2) := by decide +kernel
theorem d_X_call_7 : decode b_X_call 7 = .ok (.aload_n 0, 1) := by decide +kernel
theorem d_X_call_8 : decode b_X_call 8 = .ok (.iload_n 2, 1) := by decide +kernel
theorem d_X_call_9 : decode b_X_call 9 = .ok (.invokevirtual 53, 3) := by decide +kernel
theorem d_X_call_12 : decode b_X_call 12 = .ok (.astore 6, 2) := by decide +kernel
theorem d_X_call_14 : decode b_X_call 14 = .ok (.aload 5, 2) := by decide +kernel
theorem d_X_call_16 : decode b_X_call 16 = .ok (.ifnull 21, 3) := by decide +kernel
theorem d_X_call_19 : decode b_X_call 19 = .ok (.aload 6, 2) := by decide +kernel
theorem d_X_call_21 : decode b_X_call 21 = .ok (.ifnull 16, 3) := by decide +kernel
theorem d_X_call_24 : decode b_X_call 24 = .ok (.aload 6, 2) := by decide +kernel
theorem d_X_call_26 : decode b_X_call 26 = .ok (.getfield 57, 3) := by decide +kernel
theorem d_X_call_29 : decode b_X_call 29 = .ok (.aload 5, 2) := by decide +kernel
theorem d_X_call_31 : decode b_X_call 31 = .ok (.getfield 128, 3) := by decide +kernel
theorem d_X_call_34 : decode b_X_call 34 = .ok (.if_icmp .eq 14, 3) := by decide +kernel
theorem d_X_call_37 : decode b_X_call 37 = .ok (.aload_n 0, 1) := by decide +kernel
theorem d_X_call_38 : decode b_X_call 38 = .ok (.iconst 4, 1) := by decide +kernel
theorem d_X_call_39 : decode b_X_call 39 = .ok (.iload_n 2, 1) := by decide +kernel
theorem d_X_call_40 : decode b_X_call 40 = .ok (.iload_n 1, 1) := by decide +kernel
theorem d_X_call_41 : decode b_X_call 41 = .ok (.ldc2_w 129, 3) := by decide +kernel
theorem d_X_call_44 : decode b_X_call 44 = .ok (.invokevirtual 131, 3) := by decide +kernel
theorem d_X_call_47 : decode b_X_call 47 = .ok (.lreturn, 1) := by decide +kernel
theorem d_X_call_48 : decode b_X_call 48 = .ok (.aload_n 0, 1) := by decide +kernel
theorem d_X_call_49 : decode b_X_call 49 = .ok (.aload 5, 2) := by decide +kernel
theorem d_X_call_51 : decode b_X_call 51 = .ok (.aload 6, 2) := by decide +kernel
theorem d_X_call_53 : decode b_X_call 53 = .ok (.getfield 64, 3) := by decide +kernel
theorem d_X_call_56 : decode b_X_call 56 = .ok (.lload_n 3, 1) := by decide +kernel
theorem d_X_call_57 : decode b_X_call 57 = .ok (.invokevirtual 135, 3) := by decide +kernel
theorem d_X_call_60 : decode b_X_call 60 = .ok (.lstore 7, 2) := by decide +kernel
theorem d_X_call_62 : decode b_X_call 62 = .ok (.lload 7, 2) := by decide +kernel
theorem d_X_call_64 : decode b_X_call 64 = .ok (.lconst 0, 1) := by decide +kernel
theorem d_X_call_65 : decode b_X_call 65 = .ok (.lcmp, 1) := by decide +kernel
theorem d_X_call_66 : decode b_X_call 66 = .ok (.ifCond .eq 13, 3) := by decide +kernel
theorem d_X_call_69 : decode b_X_call 69 = .ok (.aload_n 0, 1) := by decide +kernel
theorem d_X_call_70 : decode b_X_call 70 = .ok (.iconst 4, 1) := by decide +kernel
theorem d_X_call_71 : decode b_X_call 71 = .ok (.iload_n 2, 1) := by decide +kernel
theorem d_X_call_72 : decode b_X_call 72 = .ok (.iload_n 1, 1) := by decide +kernel
theorem d_X_call_73 : decode b_X_call 73 = .ok (.lload 7, 2) := by decide +kernel
theorem d_X_call_75 : decode b_X_call 75 = .ok (.invokevirtual 131, 3) := by decide +kernel
theorem d_X_call_78 : decode b_X_call 78 = .ok (.lreturn, 1) := by decide +kernel
theorem d_X_call_79 : decode b_X_call 79 = .ok (.lload_n 3, 1) := by decide +kernel
theorem d_X_call_80 : decode b_X_call 80 = .ok (.aload_n 0, 1) := by decide +kernel
theorem d_X_call_81 : decode b_X_call 81 = .ok (.getfield 22, 3) := by decide +kernel
theorem d_X_call_84 : decode b_X_call 84 = .ok (.aload 5, 2) := by decide +kernel
theorem d_X_call_86 : decode b_X_call 86 = .ok (.getfield 139, 3) := by decide +kernel
theorem d_X_call_89 : decode b_X_call 89 = .ok (.invokevirtual 142, 3) := by decide +kernel
theorem d_X_call_92 : decode b_X_call 92 = .ok (.ladd, 1) := by decide +kernel
theorem d_X_call_93 : decode b_X_call 93 = .ok (.lstore 9, 2) := by decide +kernel
theorem d_X_call_95 : decode b_X_call 95 = .ok (.aload 5, 2) := by decide +kernel
theorem d_X_call_97 : decode b_X_call 97 = .ok (.getfield 139, 3) := by decide +kernel
theorem d_X_call_100 : decode b_X_call 100 = .ok (.iconst (-1), 1) := by decide +kernel
theorem d_X_call_101 : decode b_X_call 101 = .ok (.if_icmp .eq 49, 3) := by decide +kernel
theorem d_X_call_104 : decode b_X_call 104 = .ok (.aload 6, 2) := by decide +kernel
theorem d_X_call_106 : decode b_X_call 106 = .ok (.getfield 64, 3) := by decide +kernel
theorem d_X_call_109 : decode b_X_call 109 = .ok (.invokevirtual 68, 3) := by decide +kernel
theorem d_X_call_112 : decode b_X_call 112 = .ok (.ifCond .eq 38, 3) := by decide +kernel
theorem d_X_call_115 : decode b_X_call 115 = .ok (.aload_n 0, 1) := by decide +kernel
theorem d_X_call_116 : decode b_X_call 116 = .ok (.getfield 22, 3) := by decide +kernel
theorem d_X_call_119 : decode b_X_call 119 = .ok (.aload 5, 2) := by decide +kernel
theorem d_X_call_121 : decode b_X_call 121 = .ok (.getfield 139, 3) := by decide +kernel
theorem d_X_call_124 : decode b_X_call 124 = .ok (.invokevirtual 146, 3) := by decide +kernel
theorem d_X_call_127 : decode b_X_call 127 = .ok (.aload 6, 2) := by decide +kernel
theorem d_X_call_129 : decode b_X_call 129 = .ok (.getfield 64, 3) := by decide +kernel
theorem d_X_call_132 : decode b_X_call 132 = .ok (.iload_n 1, 1) := by decide +kernel
theorem d_X_call_133 : decode b_X_call 133 = .ok (.iload_n 2, 1) := by decide +kernel
theorem d_X_call_134 : decode b_X_call 134 = .ok (.lload 9, 2) := by decide +kernel
theorem d_X_call_136 : decode b_X_call 136 = .ok (.invokevirtual 150, 3) := by decide +kernel
theorem d_X_call_139 : decode b_X_call 139 = .ok (.aload_n 0, 1) := by decide +kernel
theorem d_X_call_140 : decode b_X_call 140 = .ok (.iconst 5, 1) := by decide +kernel
theorem d_X_call_141 : decode b_X_call 141 = .ok (.iload_n 2, 1) := by decide +kernel
theorem d_X_call_142 : decode b_X_call 142 = .ok (.iload_n 1, 1) := by decide +kernel
theorem d_X_call_143 : decode b_X_call 143 = .ok (.ldc2_w 154, 3) := by decide +kernel
theorem d_X_call_146 : decode b_X_call 146 = .ok (.invokevirtual 131, 3) := by decide +kernel
theorem d_X_call_149 : decode b_X_call 149 = .ok (.lreturn, 1) := by decide +kernel
theorem d_X_call_150 : decode b_X_call 150 = .ok (.aload 5, 2) := by decide +kernel
theorem d_X_call_152 : decode b_X_call 152 = .ok (.invokevirtual 156, 3) := by decide +kernel
theorem d_X_call_155 : decode b_X_call 155 = .ok (.istore 11, 2) := by decide +kernel
theorem d_X_call_157 : decode b_X_call 157 = .ok (.iload 11, 2) := by decide +kernel
theorem d_X_call_159 : decode b_X_call 159 = .ok (.ifCond .eq 19, 3) := by decide +kernel
theorem d_X_call_162 : decode b_X_call 162 = .ok (.aload_n 0, 1) := by decide +kernel
theorem d_X_call_163 : decode b_X_call 163 = .ok (.iload 11, 2) := by decide +kernel
theorem d_X_call_165 : decode b_X_call 165 = .ok (.iload_n 2, 1) := by decide +kernel
theorem d_X_call_166 : decode b_X_call 166 = .ok (.iload_n 1, 1) := by decide +kernel
theorem d_X_call_167 : decode b_X_call 167 = .ok (.ldc2_w 160, 3) := by decide +kernel
theorem d_X_call_170 : decode b_X_call 170 = .ok (.iload 11, 2) := by decide +kernel
theorem d_X_call_172 : decode b_X_call 172 = .ok (.i2l, 1) := by decide +kernel
theorem d_X_call_173 : decode b_X_call 173 = .ok (.lsub, 1) := by decide +kernel
theorem d_X_call_174 : decode b_X_call 174 = .ok (.invokevirtual 131, 3) := by decide +kernel
theorem d_X_call_177 : decode b_X_call 177 = .ok (.lreturn, 1) := by decide +kernel
theorem d_X_call_178 : decode b_X_call 178 = .ok (.aload_n 0, 1) := by decide +kernel
theorem d_X_call_179 : decode b_X_call 179 = .ok (.getfield 22, 3) := by decide +kernel
theorem d_X_call_182 : decode b_X_call 182 = .ok (.aload 5, 2) := by decide +kernel
theorem d_X_call_184 : decode b_X_call 184 = .ok (.getfield 139, 3) := by decide +kernel
theorem d_X_call_187 : decode b_X_call 187 = .ok (.invokevirtual 146, 3) := by decide +kernel
theorem d_X_call_190 : decode b_X_call 190 = .ok (.aload_n 0, 1) := by decide +kernel
theorem d_X_call_191 : decode b_X_call 191 = .ok (.iconst 0, 1) := by decide +kernel
theorem d_X_call_192 : decode b_X_call 192 = .ok (.iload_n 2, 1) := by decide +kernel
theorem d_X_call_193 : decode b_X_call 193 = .ok (.iload_n 1, 1) := by decide +kernel
theorem d_X_call_194 : decode b_X_call 194 = .ok (.aload 5, 2) := by decide +kernel
theorem d_X_call_196 : decode b_X_call 196 = .ok (.lload 9, 2) := by decide +kernel
theorem d_X_call_198 : decode b_X_call 198 = .ok (.invokevirtual 162, 3) := by decide +kernel
theorem d_X_call_201 : decode b_X_call 201 = .ok (.invokevirtual 131, 3) := by decide +kernel
theorem d_X_call_204 : decode b_X_call 204 = .ok (.lreturn, 1) := by decide +kernel
theorem d_X_build_0 : decode b_X_build 0 = .ok (.aload_n 0, 1) := by decide +kernel
theorem d_X_build_1 : decode b_X_build 1 = .ok (.iload_n 1, 1) := by decide +kernel
theorem d_X_build_2 : decode b_X_build 2 = .ok (.invokevirtual 166, 3) := by decide +kernel
theorem d_X_build_5 : decode b_X_build 5 = .ok (.astore_n 3, 1) := by decide +kernel
theorem d_X_build_6 : decode b_X_build 6 = .ok (.aload_n 3, 1) := by decide +kernel
theorem d_X_build_7 : decode b_X_build 7 = .ok (.ifnull 24, 3) := by decide +kernel
theorem d_X_build_10 : decode b_X_build 10 = .ok (.aload_n 3, 1) := by decide +kernel
theorem d_X_build_11 : decode b_X_build 11 = .ok (.getfield 64, 3) := by decide +kernel
theorem d_X_build_14 : decode b_X_build 14 = .ok (.invokevirtual 68, 3) := by decide +kernel
theorem d_X_build_17 : decode b_X_build 17 = .ok (.ifCond .ne 14, 3) := by decide +kernel
theorem d_X_build_20 : decode b_X_build 20 = .ok (.iload_n 2, 1) := by decide +kernel
theorem d_X_build_21 : decode b_X_build 21 = .ok (.iconst 1, 1) := by decide +kernel
theorem d_X_build_22 : decode b_X_build 22 = .ok (.if_icmp .lt 9, 3) := by decide +kernel
theorem d_X_build_25 : decode b_X_build 25 = .ok (.iload_n 2, 1) := by decide +kernel
theorem d_X_build_26 : decode b_X_build 26 = .ok (.bipush 9, 2) := by decide +kernel
theorem d_X_build_28 : decode b_X_build 28 = .ok (.if_icmp .le 5, 3) := by decide +kernel
theorem d_X_build_31 : decode b_X_build 31 = .ok (.iconst 0, 1) := by decide +kernel
theorem d_X_build_32 : decode b_X_build 32 = .ok (.ireturn, 1) := by decide +kernel
theorem d_X_build_33 : decode b_X_build 33 = .ok (.aload_n 3, 1) := by decide +kernel
theorem d_X_build_34 : decode b_X_build 34 = .ok (.getfield 64, 3) := by decide +kernel
theorem d_X_build_37 : decode b_X_build 37 = .ok (.iload_n 2, 1) := by decide +kernel
theorem d_X_build_38 : decode b_X_build 38 = .ok (.invokevirtual 169, 3) := by decide +kernel
theorem d_X_build_41 : decode b_X_build 41 = .ok (.iconst 1, 1) := by decide +kernel
theorem d_X_build_42 : decode b_X_build 42 = .ok (.ireturn, 1) := by decide +kernel
theorem d_X_turn_0 : decode b_X_turn 0 = .ok (.aload_n 0, 1) := by decide +kernel
theorem d_X_turn_1 : decode b_X_turn 1 = .ok (.iload_n 1, 1) := by decide +kernel
theorem d_X_turn_2 : decode b_X_turn 2 = .ok (.invokevirtual 166, 3) := by decide +kernel
theorem d_X_turn_5 : decode b_X_turn 5 = .ok (.astore_n 2, 1) := by decide +kernel
theorem d_X_turn_6 : decode b_X_turn 6 = .ok (.aload_n 2, 1) := by decide +kernel
theorem d_X_turn_7 : decode b_X_turn 7 = .ok (.ifnull 13, 3) := by decide +kernel
theorem d_X_turn_10 : decode b_X_turn 10 = .ok (.aload_n 2, 1) := by decide +kernel
theorem d_X_turn_11 : decode b_X_turn 11 = .ok (.getfield 64, 3) := by decide +kernel
theorem d_X_turn_14 : decode b_X_turn 14 = .ok (.invokevirtual 68, 3) := by decide +kernel
theorem d_X_turn_17 : decode b_X_turn 17 = .ok (.ifCond .ne 5, 3) := by decide +kernel
theorem d_X_turn_20 : decode b_X_turn 20 = .ok (.iconst (-1), 1) := by decide +kernel
theorem d_X_turn_21 : decode b_X_turn 21 = .ok (.ireturn, 1) := by decide +kernel
theorem d_X_turn_22 : decode b_X_turn 22 = .ok (.aload_n 2, 1) := by decide +kernel
theorem d_X_turn_23 : decode b_X_turn 23 = .ok (.getfield 64, 3) := by decide +kernel
theorem d_X_turn_26 : decode b_X_turn 26 = .ok (.invokevirtual 171, 3) := by decide +kernel
theorem d_X_turn_29 : decode b_X_turn 29 = .ok (.istore_n 3, 1) := by decide +kernel
theorem d_X_turn_30 : decode b_X_turn 30 = .ok (.aload_n 0, 1) := by decide +kernel
theorem d_X_turn_31 : decode b_X_turn 31 = .ok (.iconst 4, 1) := by decide +kernel
theorem d_X_turn_32 : decode b_X_turn 32 = .ok (.invokevirtual 174, 3) := by decide +kernel
theorem d_X_turn_35 : decode b_X_turn 35 = .ok (.istore 4, 2) := by decide +kernel
theorem d_X_turn_37 : decode b_X_turn 37 = .ok (.aload_n 0, 1) := by decide +kernel
theorem d_X_turn_38 : decode b_X_turn 38 = .ok (.iconst 5, 1) := by decide +kernel
theorem d_X_turn_39 : decode b_X_turn 39 = .ok (.invokevirtual 174, 3) := by decide +kernel
theorem d_X_turn_42 : decode b_X_turn 42 = .ok (.istore 5, 2) := by decide +kernel
theorem d_X_turn_44 : decode b_X_turn 44 = .ok (.iconst 0, 1) := by decide +kernel
theorem d_X_turn_45 : decode b_X_turn 45 = .ok (.istore 6, 2) := by decide +kernel
theorem d_X_turn_47 : decode b_X_turn 47 = .ok (.iload_n 1, 1) := by decide +kernel
theorem d_X_turn_48 : decode b_X_turn 48 = .ok (.iconst 1, 1) := by decide +kernel
theorem d_X_turn_49 : decode b_X_turn 49 = .ok (.iadd, 1) := by decide +kernel
theorem d_X_turn_50 : decode b_X_turn 50 = .ok (.istore 7, 2) := by decide +kernel
theorem d_X_turn_52 : decode b_X_turn 52 = .ok (.iload 7, 2) := by decide +kernel
theorem d_X_turn_54 : decode b_X_turn 54 = .ok (.aload_n 0, 1) := by decide +kernel
theorem d_X_turn_55 : decode b_X_turn 55 = .ok (.getfield 15, 3) := by decide +kernel
theorem d_X_turn_58 : decode b_X_turn 58 = .ok (.if_icmp .ge 42, 3) := by decide +kernel
theorem d_X_turn_61 : decode b_X_turn 61 = .ok (.aload_n 0, 1) := by decide +kernel
theorem d_X_turn_62 : decode b_X_turn 62 = .ok (.getfield 11, 3) := by decide +kernel
theorem d_X_turn_65 : decode b_X_turn 65 = .ok (.iload 7, 2) := by decide +kernel
theorem d_X_turn_67 : decode b_X_turn 67 = .ok (.aaload, 1) := by decide +kernel
theorem d_X_turn_68 : decode b_X_turn 68 = .ok (.iload_n 1, 1) := by decide +kernel
theorem d_X_turn_69 : decode b_X_turn 69 = .ok (.iload 4, 2) := by decide +kernel
theorem d_X_turn_71 : decode b_X_turn 71 = .ok (.iload 5, 2) := by decide +kernel
theorem d_X_turn_73 : decode b_X_turn 73 = .ok (.invokestatic 177, 3) := by decide +kernel
theorem d_X_turn_76 : decode b_X_turn 76 = .ok (.istore 8, 2) := by decide +kernel
theorem d_X_turn_78 : decode b_X_turn 78 = .ok (.aload_n 0, 1) := by decide +kernel
theorem d_X_turn_79 : decode b_X_turn 79 = .ok (.iload 8, 2) := by decide +kernel
theorem d_X_turn_81 : decode b_X_turn 81 = .ok (.iload 7, 2) := by decide +kernel
theorem d_X_turn_83 : decode b_X_turn 83 = .ok (.iload_n 3, 1) := by decide +kernel
theorem d_X_turn_84 : decode b_X_turn 84 = .ok (.i2l, 1) := by decide +kernel
theorem d_X_turn_85 : decode b_X_turn 85 = .ok (.invokevirtual 181, 3) := by decide +kernel
theorem d_X_turn_88 : decode b_X_turn 88 = .ok (.ifCond .eq 6, 3) := by decide +kernel
theorem d_X_turn_91 : decode b_X_turn 91 = .ok (.iinc 6 1, 3) := by decide +kernel
theorem d_X_turn_94 : decode b_X_turn 94 = .ok (.iinc 7 1, 3) := by decide +kernel
theorem d_X_turn_97 : decode b_X_turn 97 = .ok (.goto (-45), 3) := by decide +kernel
theorem d_X_turn_100 : decode b_X_turn 100 = .ok (.aload_n 2, 1) := by decide +kernel
theorem d_X_turn_101 : decode b_X_turn 101 = .ok (.getfield 64, 3) := by decide +kernel
theorem d_X_turn_104 : decode b_X_turn 104 = .ok (.invokevirtual 68, 3) := by decide +kernel
theorem d_X_turn_107 : decode b_X_turn 107 = .ok (.ifCond .ne 11, 3) := by decide +kernel
theorem d_X_turn_110 : decode b_X_turn 110 = .ok (.aload_n 0, 1) := by decide +kernel
theorem d_X_turn_111 : decode b_X_turn 111 = .ok (.aload_n 2, 1) := by decide +kernel
theorem d_X_turn_112 : decode b_X_turn 112 = .ok (.getfield 64, 3) := by decide +kernel
theorem d_X_turn_115 : decode b_X_turn 115 = .ok (.invokevirtual 185, 3) := by decide +kernel
theorem d_X_turn_118 : decode b_X_turn 118 = .ok (.iload 6, 2) := by decide +kernel
theorem d_X_turn_120 : decode b_X_turn 120 = .ok (.ireturn, 1) := by decide +kernel
theorem d_X_building_0 : decode b_X_building 0 = .ok (.aload_n 0, 1) := by decide +kernel
theorem d_X_building_1 : decode b_X_building 1 = .ok (.iload_n 1, 1) := by decide +kernel
theorem d_X_building_2 : decode b_X_building 2 = .ok (.invokevirtual 166, 3) := by decide +kernel
theorem d_X_building_5 : decode b_X_building 5 = .ok (.astore_n 3, 1) := by decide +kernel
theorem d_X_building_6 : decode b_X_building 6 = .ok (.aload_n 3, 1) := by decide +kernel
theorem d_X_building_7 : decode b_X_building 7 = .ok (.ifnonnull 5, 3) := by decide +kernel
theorem d_X_building_10 : decode b_X_building 10 = .ok (.iconst (-1), 1) := by decide +kernel
theorem d_X_building_11 : decode b_X_building 11 = .ok (.ireturn, 1) := by decide +kernel
theorem d_X_building_12 : decode b_X_building 12 = .ok (.iload_n 2, 1) := by decide +kernel
theorem d_X_building_13 : decode b_X_building 13 = .ok (.lookupswitch 43 #[(0, 27), (1, 35)], 27) := by decide +kernel
theorem d_X_building_40 : decode b_X_building 40 = .ok (.aload_n 3, 1) := by decide +kernel
theorem d_X_building_41 : decode b_X_building 41 = .ok (.getfield 64, 3) := by decide +kernel
theorem d_X_building_44 : decode b_X_building 44 = .ok (.getfield 189, 3) := by decide +kernel
theorem d_X_building_47 : decode b_X_building 47 = .ok (.ireturn, 1) := by decide +kernel
theorem d_X_building_48 : decode b_X_building 48 = .ok (.aload_n 3, 1) := by decide +kernel
theorem d_X_building_49 : decode b_X_building 49 = .ok (.getfield 64, 3) := by decide +kernel
theorem d_X_building_52 : decode b_X_building 52 = .ok (.getfield 192, 3) := by decide +kernel
theorem d_X_building_55 : decode b_X_building 55 = .ok (.ireturn, 1) := by decide +kernel
theorem d_X_building_56 : decode b_X_building 56 = .ok (.iconst (-1), 1) := by decide +kernel
theorem d_X_building_57 : decode b_X_building 57 = .ok (.ireturn, 1) := by decide +kernel
theorem d_X_told_0 : decode b_X_told 0 = .ok (.aload_n 0, 1) := by decide +kernel
theorem d_X_told_1 : decode b_X_told 1 = .ok (.getfield 35, 3) := by decide +kernel
theorem d_X_told_4 : decode b_X_told 4 = .ok (.iload_n 1, 1) := by decide +kernel
theorem d_X_told_5 : decode b_X_told 5 = .ok (.invokevirtual 195, 3) := by decide +kernel
theorem d_X_told_8 : decode b_X_told 8 = .ok (.istore_n 3, 1) := by decide +kernel
theorem d_X_told_9 : decode b_X_told 9 = .ok (.iload_n 3, 1) := by decide +kernel
theorem d_X_told_10 : decode b_X_told 10 = .ok (.iconst (-1), 1) := by decide +kernel
theorem d_X_told_11 : decode b_X_told 11 = .ok (.if_icmp .ne 5, 3) := by decide +kernel
theorem d_X_told_14 : decode b_X_told 14 = .ok (.iconst (-1), 1) := by decide +kernel
theorem d_X_told_15 : decode b_X_told 15 = .ok (.ireturn, 1) := by decide +kernel
theorem d_X_told_16 : decode b_X_told 16 = .ok (.iload_n 2, 1) := by decide +kernel
theorem d_X_told_17 : decode b_X_told 17 = .ok (.tableswitch 57 0 2 #[27, 37, 47], 27) := by decide +kernel
theorem d_X_told_44 : decode b_X_told 44 = .ok (.aload_n 0, 1) := by decide +kernel
theorem d_X_told_45 : decode b_X_told 45 = .ok (.getfield 35, 3) := by decide +kernel
theorem d_X_told_48 : decode b_X_told 48 = .ok (.getfield 198, 3) := by decide +kernel
theorem d_X_told_51 : decode b_X_told 51 = .ok (.iload_n 3, 1) := by decide +kernel
theorem d_X_told_52 : decode b_X_told 52 = .ok (.iaload, 1) := by decide +kernel
theorem d_X_told_53 : decode b_X_told 53 = .ok (.ireturn, 1) := by decide +kernel
theorem d_X_told_54 : decode b_X_told 54 = .ok (.aload_n 0, 1) := by decide +kernel
theorem d_X_told_55 : decode b_X_told 55 = .ok (.getfield 35, 3) := by decide +kernel
theorem d_X_told_58 : decode b_X_told 58 = .ok (.getfield 201, 3) := by decide +kernel
theorem d_X_told_61 : decode b_X_told 61 = .ok (.iload_n 3, 1) := by decide +kernel
theorem d_X_told_62 : decode b_X_told 62 = .ok (.iaload, 1) := by decide +kernel
theorem d_X_told_63 : decode b_X_told 63 = .ok (.ireturn, 1) := by decide +kernel
theorem d_X_told_64 : decode b_X_told 64 = .ok (.aload_n 0, 1) := by decide +kernel
theorem d_X_told_65 : decode b_X_told 65 = .ok (.getfield 35, 3) := by decide +kernel
theorem d_X_told_68 : decode b_X_told 68 = .ok (.getfield 204, 3) := by decide +kernel
theorem d_X_told_71 : decode b_X_told 71 = .ok (.iload_n 3, 1) := by decide +kernel
theorem d_X_told_72 : decode b_X_told 72 = .ok (.iaload, 1) := by decide +kernel
theorem d_X_told_73 : decode b_X_told 73 = .ok (.ireturn, 1) := by decide +kernel
theorem d_X_told_74 : decode b_X_told 74 = .ok (.iconst (-1), 1) := by decide +kernel
theorem d_X_told_75 : decode b_X_told 75 = .ok (.ireturn, 1) := by decide +kernel
theorem d_X_value_0 : decode b_X_value 0 = .ok (.aload_n 0, 1) := by decide +kernel
theorem d_X_value_1 : decode b_X_value 1 = .ok (.getfield 35, 3) := by decide +kernel
theorem d_X_value_4 : decode b_X_value 4 = .ok (.iload_n 1, 1) := by decide +kernel
theorem d_X_value_5 : decode b_X_value 5 = .ok (.invokevirtual 195, 3) := by decide +kernel
theorem d_X_value_8 : decode b_X_value 8 = .ok (.istore_n 2, 1) := by decide +kernel
theorem d_X_value_9 : decode b_X_value 9 = .ok (.iload_n 2, 1) := by decide +kernel
theorem d_X_value_10 : decode b_X_value 10 = .ok (.iconst (-1), 1) := by decide +kernel
theorem d_X_value_11 : decode b_X_value 11 = .ok (.if_icmp .ne 7, 3) := by decide +kernel
theorem d_X_value_14 : decode b_X_value 14 = .ok (.lconst 0, 1) := by decide +kernel
theorem d_X_value_15 : decode b_X_value 15 = .ok (.goto 12, 3) := by decide +kernel
theorem d_X_value_18 : decode b_X_value 18 = .ok (.aload_n 0, 1) := by decide +kernel
theorem d_X_value_19 : decode b_X_value 19 = .ok (.getfield 35, 3) := by decide +kernel
theorem d_X_value_22 : decode b_X_value 22 = .ok (.getfield 207, 3) := by decide +kernel
theorem d_X_value_25 : decode b_X_value 25 = .ok (.iload_n 2, 1) := by decide +kernel
theorem d_X_value_26 : decode b_X_value 26 = .ok (.laload, 1) := by decide +kernel
theorem d_X_value_27 : decode b_X_value 27 = .ok (.lreturn, 1) := by decide +kernel
theorem d_X_count_0 : decode b_X_count 0 = .ok (.iload_n 1, 1) := by decide +kernel
theorem d_X_count_1 : decode b_X_count 1 = .ok (.tableswitch 75 0 4 #[35, 43, 51, 59, 67], 35) := by decide +kernel
theorem d_X_count_36 : decode b_X_count 36 = .ok (.aload_n 0, 1) := by decide +kernel
theorem d_X_count_37 : decode b_X_count 37 = .ok (.getfield 35, 3) := by decide +kernel
theorem d_X_count_40 : decode b_X_count 40 = .ok (.getfield 211, 3) := by decide +kernel
theorem d_X_count_43 : decode b_X_count 43 = .ok (.ireturn, 1) := by decide +kernel
theorem d_X_count_44 : decode b_X_count 44 = .ok (.aload_n 0, 1) := by decide +kernel
theorem d_X_count_45 : decode b_X_count 45 = .ok (.getfield 35, 3) := by decide +kernel
theorem d_X_count_48 : decode b_X_count 48 = .ok (.getfield 214, 3) := by decide +kernel
theorem d_X_count_51 : decode b_X_count 51 = .ok (.ireturn, 1) := by decide +kernel
theorem d_X_count_52 : decode b_X_count 52 = .ok (.aload_n 0, 1) := by decide +kernel
theorem d_X_count_53 : decode b_X_count 53 = .ok (.getfield 35, 3) := by decide +kernel
theorem d_X_count_56 : decode b_X_count 56 = .ok (.getfield 217, 3) := by decide +kernel
theorem d_X_count_59 : decode b_X_count 59 = .ok (.ireturn, 1) := by decide +kernel
theorem d_X_count_60 : decode b_X_count 60 = .ok (.aload_n 0, 1) := by decide +kernel
theorem d_X_count_61 : decode b_X_count 61 = .ok (.getfield 35, 3) := by decide +kernel
theorem d_X_count_64 : decode b_X_count 64 = .ok (.getfield 220, 3) := by decide +kernel
theorem d_X_count_67 : decode b_X_count 67 = .ok (.ireturn, 1) := by decide +kernel
theorem d_X_count_68 : decode b_X_count 68 = .ok (.aload_n 0, 1) := by decide +kernel
theorem d_X_count_69 : decode b_X_count 69 = .ok (.getfield 35, 3) := by decide +kernel
theorem d_X_count_72 : decode b_X_count 72 = .ok (.getfield 223, 3) := by decide +kernel
theorem d_X_count_75 : decode b_X_count 75 = .ok (.ireturn, 1) := by decide +kernel
theorem d_X_count_76 : decode b_X_count 76 = .ok (.iconst (-1), 1) := by decide +kernel
theorem d_X_count_77 : decode b_X_count 77 = .ok (.ireturn, 1) := by decide +kernel
theorem d_X_isKind_0 : decode b_X_isKind 0 = .ok (.iload_n 0, 1) := by decide +kernel
theorem d_X_isKind_1 : decode b_X_isKind 1 = .ok (.ifCond .lt 15, 3) := by decide +kernel
theorem d_X_isKind_4 : decode b_X_isKind 4 = .ok (.iload_n 0, 1) := by decide +kernel
theorem d_X_isKind_5 : decode b_X_isKind 5 = .ok (.getstatic 60, 3) := by decide +kernel
theorem d_X_isKind_8 : decode b_X_isKind 8 = .ok (.arraylength, 1) := by decide +kernel
theorem d_X_isKind_9 : decode b_X_isKind 9 = .ok (.if_icmp .ge 7, 3) := by decide +kernel
theorem d_X_isKind_12 : decode b_X_isKind 12 = .ok (.iconst 1, 1) := by decide +kernel
theorem d_X_isKind_13 : decode b_X_isKind 13 = .ok (.goto 4, 3) := by decide +kernel
theorem d_X_isKind_16 : decode b_X_isKind 16 = .ok (.iconst 0, 1) := by decide +kernel
theorem d_X_isKind_17 : decode b_X_isKind 17 = .ok (.ireturn, 1) := by decide +kernel
theorem d_X_isSort_0 : decode b_X_isSort 0 = .ok (.iload_n 0, 1) := by decide +kernel
theorem d_X_isSort_1 : decode b_X_isSort 1 = .ok (.ifCond .lt 15, 3) := by decide +kernel
theorem d_X_isSort_4 : decode b_X_isSort 4 = .ok (.iload_n 0, 1) := by decide +kernel
theorem d_X_isSort_5 : decode b_X_isSort 5 = .ok (.getstatic 226, 3) := by decide +kernel
theorem d_X_isSort_8 : decode b_X_isSort 8 = .ok (.arraylength, 1) := by decide +kernel
theorem d_X_isSort_9 : decode b_X_isSort 9 = .ok (.if_icmp .ge 7, 3) := by decide +kernel
theorem d_X_isSort_12 : decode b_X_isSort 12 = .ok (.iconst 1, 1) := by decide +kernel
theorem d_X_isSort_13 : decode b_X_isSort 13 = .ok (.goto 4, 3) := by decide +kernel
theorem d_X_isSort_16 : decode b_X_isSort 16 = .ok (.iconst 0, 1) := by decide +kernel
theorem d_X_isSort_17 : decode b_X_isSort 17 = .ok (.ireturn, 1) := by decide +kernel
theorem d_X_isCall_0 : decode b_X_isCall 0 = .ok (.iload_n 0, 1) := by decide +kernel
theorem d_X_isCall_1 : decode b_X_isCall 1 = .ok (.ifCond .lt 13, 3) := by decide +kernel
theorem d_X_isCall_4 : decode b_X_isCall 4 = .ok (.iload_n 0, 1) := by decide +kernel
theorem d_X_isCall_5 : decode b_X_isCall 5 = .ok (.bipush 12, 2) := by decide +kernel
theorem d_X_isCall_7 : decode b_X_isCall 7 = .ok (.if_icmp .ge 7, 3) := by decide +kernel
theorem d_X_isCall_10 : decode b_X_isCall 10 = .ok (.iconst 1, 1) := by decide +kernel
theorem d_X_isCall_11 : decode b_X_isCall 11 = .ok (.goto 4, 3) := by decide +kernel
theorem d_X_isCall_14 : decode b_X_isCall 14 = .ok (.iconst 0, 1) := by decide +kernel
theorem d_X_isCall_15 : decode b_X_isCall 15 = .ok (.ireturn, 1) := by decide +kernel
theorem d_X_fits_0 : decode b_X_fits 0 = .ok (.iload_n 0, 1) := by decide +kernel
theorem d_X_fits_1 : decode b_X_fits 1 = .ok (.ifCond .ne 21, 3) := by decide +kernel
theorem d_X_fits_4 : decode b_X_fits 4 = .ok (.iload_n 1, 1) := by decide +kernel
theorem d_X_fits_5 : decode b_X_fits 5 = .ok (.bipush 32, 2) := by decide +kernel
theorem d_X_fits_7 : decode b_X_fits 7 = .ok (.if_icmp .lt 13, 3) := by decide +kernel
theorem d_X_fits_10 : decode b_X_fits 10 = .ok (.iload_n 1, 1) := by decide +kernel
theorem d_X_fits_11 : decode b_X_fits 11 = .ok (.bipush 126, 2) := by decide +kernel
theorem d_X_fits_13 : decode b_X_fits 13 = .ok (.if_icmp .gt 7, 3) := by decide +kernel
theorem d_X_fits_16 : decode b_X_fits 16 = .ok (.iconst 1, 1) := by decide +kernel
theorem d_X_fits_17 : decode b_X_fits 17 = .ok (.goto 4, 3) := by decide +kernel
theorem d_X_fits_20 : decode b_X_fits 20 = .ok (.iconst 0, 1) := by decide +kernel
theorem d_X_fits_21 : decode b_X_fits 21 = .ok (.ireturn, 1) := by decide +kernel
theorem d_X_fits_22 : decode b_X_fits 22 = .ok (.iload_n 0, 1) := by decide +kernel
theorem d_X_fits_23 : decode b_X_fits 23 = .ok (.iconst 1, 1) := by decide +kernel
theorem d_X_fits_24 : decode b_X_fits 24 = .ok (.if_icmp .ne 33, 3) := by decide +kernel
theorem d_X_fits_27 : decode b_X_fits 27 = .ok (.iload_n 1, 1) := by decide +kernel
theorem d_X_fits_28 : decode b_X_fits 28 = .ok (.bipush 97, 2) := by decide +kernel
theorem d_X_fits_30 : decode b_X_fits 30 = .ok (.if_icmp .lt 9, 3) := by decide +kernel
theorem d_X_fits_33 : decode b_X_fits 33 = .ok (.iload_n 1, 1) := by decide +kernel
theorem d_X_fits_34 : decode b_X_fits 34 = .ok (.bipush 122, 2) := by decide +kernel
theorem d_X_fits_36 : decode b_X_fits 36 = .ok (.if_icmp .le 15, 3) := by decide +kernel
theorem d_X_fits_39 : decode b_X_fits 39 = .ok (.iload_n 1, 1) := by decide +kernel
theorem d_X_fits_40 : decode b_X_fits 40 = .ok (.bipush 46, 2) := by decide +kernel
theorem d_X_fits_42 : decode b_X_fits 42 = .ok (.if_icmp .eq 9, 3) := by decide +kernel
theorem d_X_fits_45 : decode b_X_fits 45 = .ok (.iload_n 1, 1) := by decide +kernel
theorem d_X_fits_46 : decode b_X_fits 46 = .ok (.bipush 47, 2) := by decide +kernel
theorem d_X_fits_48 : decode b_X_fits 48 = .ok (.if_icmp .ne 7, 3) := by decide +kernel
theorem d_X_fits_51 : decode b_X_fits 51 = .ok (.iconst 1, 1) := by decide +kernel
theorem d_X_fits_52 : decode b_X_fits 52 = .ok (.goto 4, 3) := by decide +kernel
theorem d_X_fits_55 : decode b_X_fits 55 = .ok (.iconst 0, 1) := by decide +kernel
theorem d_X_fits_56 : decode b_X_fits 56 = .ok (.ireturn, 1) := by decide +kernel
theorem d_X_fits_57 : decode b_X_fits 57 = .ok (.iload_n 1, 1) := by decide +kernel
theorem d_X_fits_58 : decode b_X_fits 58 = .ok (.ifCond .lt 14, 3) := by decide +kernel
theorem d_X_fits_61 : decode b_X_fits 61 = .ok (.iload_n 1, 1) := by decide +kernel
theorem d_X_fits_62 : decode b_X_fits 62 = .ok (.sipush 255, 3) := by decide +kernel
theorem d_X_fits_65 : decode b_X_fits 65 = .ok (.if_icmp .gt 7, 3) := by decide +kernel
theorem d_X_fits_68 : decode b_X_fits 68 = .ok (.iconst 1, 1) := by decide +kernel
theorem d_X_fits_69 : decode b_X_fits 69 = .ok (.goto 4, 3) := by decide +kernel
theorem d_X_fits_72 : decode b_X_fits 72 = .ok (.iconst 0, 1) := by decide +kernel
theorem d_X_fits_73 : decode b_X_fits 73 = .ok (.ireturn, 1) := by decide +kernel
theorem d_X_thingAt_0 : decode b_X_thingAt 0 = .ok (.iload_n 1, 1) := by decide +kernel
theorem d_X_thingAt_1 : decode b_X_thingAt 1 = .ok (.ifCond .lt 18, 3) := by decide +kernel
theorem d_X_thingAt_4 : decode b_X_thingAt 4 = .ok (.iload_n 1, 1) := by decide +kernel
theorem d_X_thingAt_5 : decode b_X_thingAt 5 = .ok (.bipush 60, 2) := by decide +kernel
theorem d_X_thingAt_7 : decode b_X_thingAt 7 = .ok (.if_icmp .ge 12, 3) := by decide +kernel
theorem d_X_thingAt_10 : decode b_X_thingAt 10 = .ok (.aload_n 0, 1) := by decide +kernel
theorem d_X_thingAt_11 : decode b_X_thingAt 11 = .ok (.getfield 11, 3) := by decide +kernel
theorem d_X_thingAt_14 : decode b_X_thingAt 14 = .ok (.iload_n 1, 1) := by decide +kernel
theorem d_X_thingAt_15 : decode b_X_thingAt 15 = .ok (.aaload, 1) := by decide +kernel
theorem d_X_thingAt_16 : decode b_X_thingAt 16 = .ok (.goto 4, 3) := by decide +kernel
theorem d_X_thingAt_19 : decode b_X_thingAt 19 = .ok (.aconst_null, 1) := by decide +kernel
theorem d_X_thingAt_20 : decode b_X_thingAt 20 = .ok (.areturn, 1) := by decide +kernel
theorem d_X_houseAt_0 : decode b_X_houseAt 0 = .ok (.aload_n 0, 1) := by decide +kernel
theorem d_X_houseAt_1 : decode b_X_houseAt 1 = .ok (.iload_n 1, 1) := by decide +kernel
theorem d_X_houseAt_2 : decode b_X_houseAt 2 = .ok (.invokevirtual 53, 3) := by decide +kernel
theorem d_X_houseAt_5 : decode b_X_houseAt 5 = .ok (.astore_n 2, 1) := by decide +kernel
theorem d_X_houseAt_6 : decode b_X_houseAt 6 = .ok (.aload_n 2, 1) := by decide +kernel
theorem d_X_houseAt_7 : decode b_X_houseAt 7 = .ok (.ifnull 14, 3) := by decide +kernel
theorem d_X_houseAt_10 : decode b_X_houseAt 10 = .ok (.aload_n 2, 1) := by decide +kernel
theorem d_X_houseAt_11 : decode b_X_houseAt 11 = .ok (.getfield 57, 3) := by decide +kernel
theorem d_X_houseAt_14 : decode b_X_houseAt 14 = .ok (.ifCond .ne 7, 3) := by decide +kernel
theorem d_X_houseAt_17 : decode b_X_houseAt 17 = .ok (.aload_n 2, 1) := by decide +kernel
theorem d_X_houseAt_18 : decode b_X_houseAt 18 = .ok (.goto 4, 3) := by decide +kernel
theorem d_X_houseAt_21 : decode b_X_houseAt 21 = .ok (.aconst_null, 1) := by decide +kernel
theorem d_X_houseAt_22 : decode b_X_houseAt 22 = .ok (.areturn, 1) := by decide +kernel
theorem d_X_partAt_0 : decode b_X_partAt 0 = .ok (.iload_n 1, 1) := by decide +kernel
theorem d_X_partAt_1 : decode b_X_partAt 1 = .ok (.invokestatic 103, 3) := by decide +kernel
theorem d_X_partAt_4 : decode b_X_partAt 4 = .ok (.ifCond .eq 12, 3) := by decide +kernel
theorem d_X_partAt_7 : decode b_X_partAt 7 = .ok (.aload_n 0, 1) := by decide +kernel
theorem d_X_partAt_8 : decode b_X_partAt 8 = .ok (.getfield 28, 3) := by decide +kernel
theorem d_X_partAt_11 : decode b_X_partAt 11 = .ok (.iload_n 1, 1) := by decide +kernel
theorem d_X_partAt_12 : decode b_X_partAt 12 = .ok (.aaload, 1) := by decide +kernel
theorem d_X_partAt_13 : decode b_X_partAt 13 = .ok (.goto 4, 3) := by decide +kernel
theorem d_X_partAt_16 : decode b_X_partAt 16 = .ok (.aconst_null, 1) := by decide +kernel
theorem d_X_partAt_17 : decode b_X_partAt 17 = .ok (.areturn, 1) := by decide +kernel
theorem d_X_keep_0 : decode b_X_keep 0 = .ok (.aload_n 0, 1) := by decide +kernel
theorem d_X_keep_1 : decode b_X_keep 1 = .ok (.getfield 11, 3) := by decide +kernel
theorem d_X_keep_4 : decode b_X_keep 4 = .ok (.aload_n 0, 1) := by decide +kernel
theorem d_X_keep_5 : decode b_X_keep 5 = .ok (.getfield 15, 3) := by decide +kernel
theorem d_X_keep_8 : decode b_X_keep 8 = .ok (.aload_n 1, 1) := by decide +kernel
theorem d_X_keep_9 : decode b_X_keep 9 = .ok (.aastore, 1) := by decide +kernel
theorem d_X_keep_10 : decode b_X_keep 10 = .ok (.aload_n 0, 1) := by decide +kernel
theorem d_X_keep_11 : decode b_X_keep 11 = .ok (.dup, 1) := by decide +kernel
theorem d_X_keep_12 : decode b_X_keep 12 = .ok (.getfield 15, 3) := by decide +kernel
theorem d_X_keep_15 : decode b_X_keep 15 = .ok (.iconst 1, 1) := by decide +kernel
theorem d_X_keep_16 : decode b_X_keep 16 = .ok (.iadd, 1) := by decide +kernel
theorem d_X_keep_17 : decode b_X_keep 17 = .ok (.putfield 15, 3) := by decide +kernel
theorem d_X_keep_20 : decode b_X_keep 20 = .ok (.aload_n 0, 1) := by decide +kernel
theorem d_X_keep_21 : decode b_X_keep 21 = .ok (.getfield 15, 3) := by decide +kernel
theorem d_X_keep_24 : decode b_X_keep 24 = .ok (.iconst 1, 1) := by decide +kernel
theorem d_X_keep_25 : decode b_X_keep 25 = .ok (.isub, 1) := by decide +kernel
theorem d_X_keep_26 : decode b_X_keep 26 = .ok (.ireturn, 1) := by decide +kernel
theorem d_X_hasLostItsPlace_0 : decode b_X_hasLostItsPlace 0 = .ok (.aload_n 1, 1) := by decide +kernel
theorem d_X_hasLostItsPlace_1 : decode b_X_hasLostItsPlace 1 = .ok (.ifnull 25, 3) := by decide +kernel
theorem d_X_hasLostItsPlace_4 : decode b_X_hasLostItsPlace 4 = .ok (.aload_n 1, 1) := by decide +kernel
theorem d_X_hasLostItsPlace_5 : decode b_X_hasLostItsPlace 5 = .ok (.getfield 57, 3) := by decide +kernel
theorem d_X_hasLostItsPlace_8 : decode b_X_hasLostItsPlace 8 = .ok (.ifCond .eq 18, 3) := by decide +kernel
theorem d_X_hasLostItsPlace_11 : decode b_X_hasLostItsPlace 11 = .ok (.aload_n 0, 1) := by decide +kernel
theorem d_X_hasLostItsPlace_12 : decode b_X_hasLostItsPlace 12 = .ok (.aload_n 1, 1) := by decide +kernel
theorem d_X_hasLostItsPlace_13 : decode b_X_hasLostItsPlace 13 = .ok (.getfield 79, 3) := by decide +kernel
theorem d_X_hasLostItsPlace_16 : decode b_X_hasLostItsPlace 16 = .ok (.invokevirtual 53, 3) := by decide +kernel
theorem d_X_hasLostItsPlace_19 : decode b_X_hasLostItsPlace 19 = .ok (.ifnonnull 7, 3) := by decide +kernel
theorem d_X_hasLostItsPlace_22 : decode b_X_hasLostItsPlace 22 = .ok (.iconst 1, 1) := by decide +kernel
theorem d_X_hasLostItsPlace_23 : decode b_X_hasLostItsPlace 23 = .ok (.goto 4, 3) := by decide +kernel
theorem d_X_hasLostItsPlace_26 : decode b_X_hasLostItsPlace 26 = .ok (.iconst 0, 1) := by decide +kernel
theorem d_X_hasLostItsPlace_27 : decode b_X_hasLostItsPlace 27 = .ok (.ireturn, 1) := by decide +kernel
theorem d_X_lyingJustIn_0 : decode b_X_lyingJustIn 0 = .ok (.iconst 0, 1) := by decide +kernel
theorem d_X_lyingJustIn_1 : decode b_X_lyingJustIn 1 = .ok (.istore_n 2, 1) := by decide +kernel
theorem d_X_lyingJustIn_2 : decode b_X_lyingJustIn 2 = .ok (.iload_n 1, 1) := by decide +kernel
theorem d_X_lyingJustIn_3 : decode b_X_lyingJustIn 3 = .ok (.iconst 1, 1) := by decide +kernel
theorem d_X_lyingJustIn_4 : decode b_X_lyingJustIn 4 = .ok (.iadd, 1) := by decide +kernel
theorem d_X_lyingJustIn_5 : decode b_X_lyingJustIn 5 = .ok (.istore_n 3, 1) := by decide +kernel
theorem d_X_lyingJustIn_6 : decode b_X_lyingJustIn 6 = .ok (.iload_n 3, 1) := by decide +kernel
theorem d_X_lyingJustIn_7 : decode b_X_lyingJustIn 7 = .ok (.aload_n 0, 1) := by decide +kernel
theorem d_X_lyingJustIn_8 : decode b_X_lyingJustIn 8 = .ok (.getfield 15, 3) := by decide +kernel
theorem d_X_lyingJustIn_11 : decode b_X_lyingJustIn 11 = .ok (.if_icmp .ge 34, 3) := by decide +kernel
theorem d_X_lyingJustIn_14 : decode b_X_lyingJustIn 14 = .ok (.aload_n 0, 1) := by decide +kernel
theorem d_X_lyingJustIn_15 : decode b_X_lyingJustIn 15 = .ok (.getfield 11, 3) := by decide +kernel
theorem d_X_lyingJustIn_18 : decode b_X_lyingJustIn 18 = .ok (.iload_n 3, 1) := by decide +kernel
theorem d_X_lyingJustIn_19 : decode b_X_lyingJustIn 19 = .ok (.aaload, 1) := by decide +kernel
theorem d_X_lyingJustIn_20 : decode b_X_lyingJustIn 20 = .ok (.ifnull 19, 3) := by decide +kernel
theorem d_X_lyingJustIn_23 : decode b_X_lyingJustIn 23 = .ok (.aload_n 0, 1) := by decide +kernel
theorem d_X_lyingJustIn_24 : decode b_X_lyingJustIn 24 = .ok (.getfield 11, 3) := by decide +kernel
theorem d_X_lyingJustIn_27 : decode b_X_lyingJustIn 27 = .ok (.iload_n 3, 1) := by decide +kernel
theorem d_X_lyingJustIn_28 : decode b_X_lyingJustIn 28 = .ok (.aaload, 1) := by decide +kernel
theorem d_X_lyingJustIn_29 : decode b_X_lyingJustIn 29 = .ok (.getfield 79, 3) := by decide +kernel
theorem d_X_lyingJustIn_32 : decode b_X_lyingJustIn 32 = .ok (.iload_n 1, 1) := by decide +kernel
theorem d_X_lyingJustIn_33 : decode b_X_lyingJustIn 33 = .ok (.if_icmp .ne 6, 3) := by decide +kernel
theorem d_X_lyingJustIn_36 : decode b_X_lyingJustIn 36 = .ok (.iinc 2 1, 3) := by decide +kernel
theorem d_X_lyingJustIn_39 : decode b_X_lyingJustIn 39 = .ok (.iinc 3 1, 3) := by decide +kernel
theorem d_X_lyingJustIn_42 : decode b_X_lyingJustIn 42 = .ok (.goto (-36), 3) := by decide +kernel
theorem d_X_lyingJustIn_45 : decode b_X_lyingJustIn 45 = .ok (.iload_n 2, 1) := by decide +kernel
theorem d_X_lyingJustIn_46 : decode b_X_lyingJustIn 46 = .ok (.ireturn, 1) := by decide +kernel
theorem d_X_refusalOf_0 : decode b_X_refusalOf 0 = .ok (.lload_n 3, 1) := by decide +kernel
theorem d_X_refusalOf_1 : decode b_X_refusalOf 1 = .ok (.aload_n 1, 1) := by decide +kernel
theorem d_X_refusalOf_2 : decode b_X_refusalOf 2 = .ok (.getfield 229, 3) := by decide +kernel
theorem d_X_refusalOf_5 : decode b_X_refusalOf 5 = .ok (.lcmp, 1) := by decide +kernel
theorem d_X_refusalOf_6 : decode b_X_refusalOf 6 = .ok (.ifCond .lt 12, 3) := by decide +kernel
theorem d_X_refusalOf_9 : decode b_X_refusalOf 9 = .ok (.lload_n 3, 1) := by decide +kernel
theorem d_X_refusalOf_10 : decode b_X_refusalOf 10 = .ok (.aload_n 1, 1) := by decide +kernel
theorem d_X_refusalOf_11 : decode b_X_refusalOf 11 = .ok (.getfield 233, 3) := by decide +kernel
theorem d_X_refusalOf_14 : decode b_X_refusalOf 14 = .ok (.lcmp, 1) := by decide +kernel
theorem d_X_refusalOf_15 : decode b_X_refusalOf 15 = .ok (.ifCond .le 7, 3) := by decide +kernel
theorem d_X_refusalOf_18 : decode b_X_refusalOf 18 = .ok (.ldc2_w 236, 3) := by decide +kernel
theorem d_X_refusalOf_21 : decode b_X_refusalOf 21 = .ok (.lreturn, 1) := by decide +kernel
theorem d_X_refusalOf_22 : decode b_X_refusalOf 22 = .ok (.aload_n 1, 1) := by decide +kernel
theorem d_X_refusalOf_23 : decode b_X_refusalOf 23 = .ok (.getfield 139, 3) := by decide +kernel
theorem d_X_refusalOf_26 : decode b_X_refusalOf 26 = .ok (.iconst (-1), 1) := by decide +kernel
theorem d_X_refusalOf_27 : decode b_X_refusalOf 27 = .ok (.if_icmp .ne 5, 3) := by decide +kernel
theorem d_X_refusalOf_30 : decode b_X_refusalOf 30 = .ok (.lconst 0, 1) := by decide +kernel
theorem d_X_refusalOf_31 : decode b_X_refusalOf 31 = .ok (.lreturn, 1) := by decide +kernel
theorem d_X_refusalOf_32 : decode b_X_refusalOf 32 = .ok (.aload_n 0, 1) := by decide +kernel
theorem d_X_refusalOf_33 : decode b_X_refusalOf 33 = .ok (.getfield 22, 3) := by decide +kernel
theorem d_X_refusalOf_36 : decode b_X_refusalOf 36 = .ok (.aload_n 1, 1) := by decide +kernel
theorem d_X_refusalOf_37 : decode b_X_refusalOf 37 = .ok (.getfield 139, 3) := by decide +kernel
theorem d_X_refusalOf_40 : decode b_X_refusalOf 40 = .ok (.invokevirtual 100, 3) := by decide +kernel
theorem d_X_refusalOf_43 : decode b_X_refusalOf 43 = .ok (.ifCond .ne 7, 3) := by decide +kernel
theorem d_X_refusalOf_46 : decode b_X_refusalOf 46 = .ok (.ldc2_w 238, 3) := by decide +kernel
theorem d_X_refusalOf_49 : decode b_X_refusalOf 49 = .ok (.lreturn, 1) := by decide +kernel
theorem d_X_refusalOf_50 : decode b_X_refusalOf 50 = .ok (.aload_n 2, 1) := by decide +kernel
theorem d_X_refusalOf_51 : decode b_X_refusalOf 51 = .ok (.invokevirtual 68, 3) := by decide +kernel
theorem d_X_refusalOf_54 : decode b_X_refusalOf 54 = .ok (.ifCond .eq 16, 3) := by decide +kernel
theorem d_X_refusalOf_57 : decode b_X_refusalOf 57 = .ok (.aload_n 2, 1) := by decide +kernel
theorem d_X_refusalOf_58 : decode b_X_refusalOf 58 = .ok (.invokevirtual 240, 3) := by decide +kernel
theorem d_X_refusalOf_61 : decode b_X_refusalOf 61 = .ok (.ifCond .eq 9, 3) := by decide +kernel
theorem d_X_refusalOf_64 : decode b_X_refusalOf 64 = .ok (.ldc2_w 242, 3) := by decide +kernel
theorem d_X_refusalOf_67 : decode b_X_refusalOf 67 = .ok (.goto 4, 3) := by decide +kernel
theorem d_X_refusalOf_70 : decode b_X_refusalOf 70 = .ok (.lconst 0, 1) := by decide +kernel
theorem d_X_refusalOf_71 : decode b_X_refusalOf 71 = .ok (.lreturn, 1) := by decide +kernel
theorem d_X_tell_0 : decode b_X_tell 0 = .ok (.aload_n 0, 1) := by decide +kernel
theorem d_X_tell_1 : decode b_X_tell 1 = .ok (.getfield 35, 3) := by decide +kernel
theorem d_X_tell_4 : decode b_X_tell 4 = .ok (.iload_n 1, 1) := by decide +kernel
theorem d_X_tell_5 : decode b_X_tell 5 = .ok (.iload_n 2, 1) := by decide +kernel
theorem d_X_tell_6 : decode b_X_tell 6 = .ok (.iload_n 3, 1) := by decide +kernel
theorem d_X_tell_7 : decode b_X_tell 7 = .ok (.lload 4, 2) := by decide +kernel
theorem d_X_tell_9 : decode b_X_tell 9 = .ok (.invokevirtual 244, 3) := by decide +kernel
theorem d_X_tell_12 : decode b_X_tell 12 = .ok (.lload 4, 2) := by decide +kernel
theorem d_X_tell_14 : decode b_X_tell 14 = .ok (.lreturn, 1) := by decide +kernel
theorem d_X_leastCallFor_0 : decode b_X_leastCallFor 0 = .ok (.iconst 0, 1) := by decide +kernel
theorem d_X_leastCallFor_1 : decode b_X_leastCallFor 1 = .ok (.istore_n 2, 1) := by decide +kernel
theorem d_X_leastCallFor_2 : decode b_X_leastCallFor 2 = .ok (.iload_n 2, 1) := by decide +kernel
theorem d_X_leastCallFor_3 : decode b_X_leastCallFor 3 = .ok (.bipush 12, 2) := by decide +kernel
theorem d_X_leastCallFor_5 : decode b_X_leastCallFor 5 = .ok (.if_icmp .ge 33, 3) := by decide +kernel
theorem d_X_leastCallFor_8 : decode b_X_leastCallFor 8 = .ok (.aload_n 0, 1) := by decide +kernel
theorem d_X_leastCallFor_9 : decode b_X_leastCallFor 9 = .ok (.getfield 28, 3) := by decide +kernel
theorem d_X_leastCallFor_12 : decode b_X_leastCallFor 12 = .ok (.iload_n 2, 1) := by decide +kernel
theorem d_X_leastCallFor_13 : decode b_X_leastCallFor 13 = .ok (.aaload, 1) := by decide +kernel
theorem d_X_leastCallFor_14 : decode b_X_leastCallFor 14 = .ok (.ifnull 18, 3) := by decide +kernel
theorem d_X_leastCallFor_17 : decode b_X_leastCallFor 17 = .ok (.aload_n 0, 1) := by decide +kernel
theorem d_X_leastCallFor_18 : decode b_X_leastCallFor 18 = .ok (.getfield 28, 3) := by decide +kernel
theorem d_X_leastCallFor_21 : decode b_X_leastCallFor 21 = .ok (.iload_n 2, 1) := by decide +kernel
theorem d_X_leastCallFor_22 : decode b_X_leastCallFor 22 = .ok (.aaload, 1) := by decide +kernel
theorem d_X_leastCallFor_23 : decode b_X_leastCallFor 23 = .ok (.getfield 128, 3) := by decide +kernel
theorem d_X_leastCallFor_26 : decode b_X_leastCallFor 26 = .ok (.iload_n 1, 1) := by decide +kernel
theorem d_X_leastCallFor_27 : decode b_X_leastCallFor 27 = .ok (.if_icmp .ne 5, 3) := by decide +kernel
theorem d_X_leastCallFor_30 : decode b_X_leastCallFor 30 = .ok (.iload_n 2, 1) := by decide +kernel
theorem d_X_leastCallFor_31 : decode b_X_leastCallFor 31 = .ok (.ireturn, 1) := by decide +kernel
theorem d_X_leastCallFor_32 : decode b_X_leastCallFor 32 = .ok (.iinc 2 1, 3) := by decide +kernel
theorem d_X_leastCallFor_35 : decode b_X_leastCallFor 35 = .ok (.goto (-33), 3) := by decide +kernel
theorem d_X_leastCallFor_38 : decode b_X_leastCallFor 38 = .ok (.iconst (-1), 1) := by decide +kernel
theorem d_X_leastCallFor_39 : decode b_X_leastCallFor 39 = .ok (.ireturn, 1) := by decide +kernel
theorem d_X_callInTurn_0 : decode b_X_callInTurn 0 = .ok (.aload_n 0, 1) := by decide +kernel
theorem d_X_callInTurn_1 : decode b_X_callInTurn 1 = .ok (.ifnull 11, 3) := by decide +kernel
theorem d_X_callInTurn_4 : decode b_X_callInTurn 4 = .ok (.aload_n 0, 1) := by decide +kernel
theorem d_X_callInTurn_5 : decode b_X_callInTurn 5 = .ok (.getfield 72, 3) := by decide +kernel
theorem d_X_callInTurn_8 : decode b_X_callInTurn 8 = .ok (.iload_n 1, 1) := by decide +kernel
theorem d_X_callInTurn_9 : decode b_X_callInTurn 9 = .ok (.if_icmp .eq 5, 3) := by decide +kernel
theorem d_X_callInTurn_12 : decode b_X_callInTurn 12 = .ok (.iconst (-1), 1) := by decide +kernel
theorem d_X_callInTurn_13 : decode b_X_callInTurn 13 = .ok (.ireturn, 1) := by decide +kernel
theorem d_X_callInTurn_14 : decode b_X_callInTurn 14 = .ok (.aload_n 0, 1) := by decide +kernel
theorem d_X_callInTurn_15 : decode b_X_callInTurn 15 = .ok (.getfield 57, 3) := by decide +kernel
theorem d_X_callInTurn_18 : decode b_X_callInTurn 18 = .ok (.iconst 4, 1) := by decide +kernel
theorem d_X_callInTurn_19 : decode b_X_callInTurn 19 = .ok (.if_icmp .ne 5, 3) := by decide +kernel
theorem d_X_callInTurn_22 : decode b_X_callInTurn 22 = .ok (.iload_n 2, 1) := by decide +kernel
theorem d_X_callInTurn_23 : decode b_X_callInTurn 23 = .ok (.ireturn, 1) := by decide +kernel
theorem d_X_callInTurn_24 : decode b_X_callInTurn 24 = .ok (.aload_n 0, 1) := by decide +kernel
theorem d_X_callInTurn_25 : decode b_X_callInTurn 25 = .ok (.getfield 57, 3) := by decide +kernel
theorem d_X_callInTurn_28 : decode b_X_callInTurn 28 = .ok (.iconst 5, 1) := by decide +kernel
theorem d_X_callInTurn_29 : decode b_X_callInTurn 29 = .ok (.if_icmp .ne 7, 3) := by decide +kernel
theorem d_X_callInTurn_32 : decode b_X_callInTurn 32 = .ok (.iload_n 3, 1) := by decide +kernel
theorem d_X_callInTurn_33 : decode b_X_callInTurn 33 = .ok (.goto 4, 3) := by decide +kernel
theorem d_X_callInTurn_36 : decode b_X_callInTurn 36 = .ok (.iconst (-1), 1) := by decide +kernel
theorem d_X_callInTurn_37 : decode b_X_callInTurn 37 = .ok (.ireturn, 1) := by decide +kernel
theorem d_X_goes_0 : decode b_X_goes 0 = .ok (.aload_n 0, 1) := by decide +kernel
theorem d_X_goes_1 : decode b_X_goes 1 = .ok (.iload_n 1, 1) := by decide +kernel
theorem d_X_goes_2 : decode b_X_goes 2 = .ok (.invokevirtual 111, 3) := by decide +kernel
theorem d_X_goes_5 : decode b_X_goes 5 = .ok (.astore 5, 2) := by decide +kernel
theorem d_X_goes_7 : decode b_X_goes 7 = .ok (.aload 5, 2) := by decide +kernel
theorem d_X_goes_9 : decode b_X_goes 9 = .ok (.ifnonnull 5, 3) := by decide +kernel
theorem d_X_goes_12 : decode b_X_goes 12 = .ok (.iconst 0, 1) := by decide +kernel
theorem d_X_goes_13 : decode b_X_goes 13 = .ok (.ireturn, 1) := by decide +kernel
theorem d_X_goes_14 : decode b_X_goes 14 = .ok (.aload 5, 2) := by decide +kernel
theorem d_X_goes_16 : decode b_X_goes 16 = .ok (.invokevirtual 156, 3) := by decide +kernel
theorem d_X_goes_19 : decode b_X_goes 19 = .ok (.istore 6, 2) := by decide +kernel
theorem d_X_goes_21 : decode b_X_goes 21 = .ok (.aload_n 0, 1) := by decide +kernel
theorem d_X_goes_22 : decode b_X_goes 22 = .ok (.iload 6, 2) := by decide +kernel
theorem d_X_goes_24 : decode b_X_goes 24 = .ok (.iload_n 2, 1) := by decide +kernel
theorem d_X_goes_25 : decode b_X_goes 25 = .ok (.iload_n 1, 1) := by decide +kernel
theorem d_X_goes_26 : decode b_X_goes 26 = .ok (.iload 6, 2) := by decide +kernel
theorem d_X_goes_28 : decode b_X_goes 28 = .ok (.ifCond .ne 12, 3) := by decide +kernel
theorem d_X_goes_31 : decode b_X_goes 31 = .ok (.aload 5, 2) := by decide +kernel
theorem d_X_goes_33 : decode b_X_goes 33 = .ok (.lload_n 3, 1) := by decide +kernel
theorem d_X_goes_34 : decode b_X_goes 34 = .ok (.invokevirtual 162, 3) := by decide +kernel
theorem d_X_goes_37 : decode b_X_goes 37 = .ok (.goto 4, 3) := by decide +kernel
theorem d_X_goes_40 : decode b_X_goes 40 = .ok (.lconst 0, 1) := by decide +kernel
theorem d_X_goes_41 : decode b_X_goes 41 = .ok (.invokevirtual 131, 3) := by decide +kernel
theorem d_X_goes_44 : decode b_X_goes 44 = .ok (.pop2, 1) := by decide +kernel
theorem d_X_goes_45 : decode b_X_goes 45 = .ok (.iload 6, 2) := by decide +kernel
theorem d_X_goes_47 : decode b_X_goes 47 = .ok (.ifCond .ne 7, 3) := by decide +kernel
theorem d_X_goes_50 : decode b_X_goes 50 = .ok (.iconst 1, 1) := by decide +kernel
theorem d_X_goes_51 : decode b_X_goes 51 = .ok (.goto 4, 3) := by decide +kernel
theorem d_X_goes_54 : decode b_X_goes 54 = .ok (.iconst 0, 1) := by decide +kernel
theorem d_X_goes_55 : decode b_X_goes 55 = .ok (.ireturn, 1) := by decide +kernel
theorem d_X_letWaitingGo_0 : decode b_X_letWaitingGo 0 = .ok (.iconst 0, 1) := by decide +kernel
theorem d_X_letWaitingGo_1 : decode b_X_letWaitingGo 1 = .ok (.istore_n 2, 1) := by decide +kernel
theorem d_X_letWaitingGo_2 : decode b_X_letWaitingGo 2 = .ok (.iload_n 2, 1) := by decide +kernel
theorem d_X_letWaitingGo_3 : decode b_X_letWaitingGo 3 = .ok (.aload_n 1, 1) := by decide +kernel
theorem d_X_letWaitingGo_4 : decode b_X_letWaitingGo 4 = .ok (.getfield 192, 3) := by decide +kernel
theorem d_X_letWaitingGo_7 : decode b_X_letWaitingGo 7 = .ok (.if_icmp .ge 38, 3) := by decide +kernel
theorem d_X_letWaitingGo_10 : decode b_X_letWaitingGo 10 = .ok (.iload_n 2, 1) := by decide +kernel
theorem d_X_letWaitingGo_11 : decode b_X_letWaitingGo 11 = .ok (.bipush 6, 2) := by decide +kernel
theorem d_X_letWaitingGo_13 : decode b_X_letWaitingGo 13 = .ok (.if_icmp .ge 32, 3) := by decide +kernel
theorem d_X_letWaitingGo_16 : decode b_X_letWaitingGo 16 = .ok (.aload_n 0, 1) := by decide +kernel
theorem d_X_letWaitingGo_17 : decode b_X_letWaitingGo 17 = .ok (.aload_n 1, 1) := by decide +kernel
theorem d_X_letWaitingGo_18 : decode b_X_letWaitingGo 18 = .ok (.getfield 248, 3) := by decide +kernel
theorem d_X_letWaitingGo_21 : decode b_X_letWaitingGo 21 = .ok (.iload_n 2, 1) := by decide +kernel
theorem d_X_letWaitingGo_22 : decode b_X_letWaitingGo 22 = .ok (.iaload, 1) := by decide +kernel
theorem d_X_letWaitingGo_23 : decode b_X_letWaitingGo 23 = .ok (.aload_n 1, 1) := by decide +kernel
theorem d_X_letWaitingGo_24 : decode b_X_letWaitingGo 24 = .ok (.getfield 249, 3) := by decide +kernel
theorem d_X_letWaitingGo_27 : decode b_X_letWaitingGo 27 = .ok (.iload_n 2, 1) := by decide +kernel
theorem d_X_letWaitingGo_28 : decode b_X_letWaitingGo 28 = .ok (.iaload, 1) := by decide +kernel
theorem d_X_letWaitingGo_29 : decode b_X_letWaitingGo 29 = .ok (.aload_n 1, 1) := by decide +kernel
theorem d_X_letWaitingGo_30 : decode b_X_letWaitingGo 30 = .ok (.getfield 250, 3) := by decide +kernel
theorem d_X_letWaitingGo_33 : decode b_X_letWaitingGo 33 = .ok (.iload_n 2, 1) := by decide +kernel
theorem d_X_letWaitingGo_34 : decode b_X_letWaitingGo 34 = .ok (.laload, 1) := by decide +kernel
theorem d_X_letWaitingGo_35 : decode b_X_letWaitingGo 35 = .ok (.invokevirtual 181, 3) := by decide +kernel
theorem d_X_letWaitingGo_38 : decode b_X_letWaitingGo 38 = .ok (.pop, 1) := by decide +kernel
theorem d_X_letWaitingGo_39 : decode b_X_letWaitingGo 39 = .ok (.iinc 2 1, 3) := by decide +kernel
theorem d_X_letWaitingGo_42 : decode b_X_letWaitingGo 42 = .ok (.goto (-40), 3) := by decide +kernel
theorem d_X_letWaitingGo_45 : decode b_X_letWaitingGo 45 = .ok (.aload_n 1, 1) := by decide +kernel
theorem d_X_letWaitingGo_46 : decode b_X_letWaitingGo 46 = .ok (.iconst 0, 1) := by decide +kernel
theorem d_X_letWaitingGo_47 : decode b_X_letWaitingGo 47 = .ok (.putfield 192, 3) := by decide +kernel
theorem d_X_letWaitingGo_50 : decode b_X_letWaitingGo 50 = .ok (.return_, 1) := by decide +kernel
end
section
theorem d_M_init_0 : decode b_M_init 0 = .ok (.aload_n 0, 1) := by decide +kernel
theorem d_M_init_1 : decode b_M_init 1 = .ok (.invokespecial 1, 3) := by decide +kernel
theorem d_M_init_4 : decode b_M_init 4 = .ok (.aload_n 0, 1) := by decide +kernel
theorem d_M_init_5 : decode b_M_init 5 = .ok (.bipush 60, 2) := by decide +kernel
theorem d_M_init_7 : decode b_M_init 7 = .ok (.newarray .int, 2) := by decide +kernel
theorem d_M_init_9 : decode b_M_init 9 = .ok (.putfield 7, 3) := by decide +kernel
theorem d_M_init_12 : decode b_M_init 12 = .ok (.aload_n 0, 1) := by decide +kernel
theorem d_M_init_13 : decode b_M_init 13 = .ok (.bipush 60, 2) := by decide +kernel
theorem d_M_init_15 : decode b_M_init 15 = .ok (.newarray .int, 2) := by decide +kernel
theorem d_M_init_17 : decode b_M_init 17 = .ok (.putfield 13, 3) := by decide +kernel
theorem d_M_init_20 : decode b_M_init 20 = .ok (.aload_n 0, 1) := by decide +kernel
theorem d_M_init_21 : decode b_M_init 21 = .ok (.bipush 60, 2) := by decide +kernel
theorem d_M_init_23 : decode b_M_init 23 = .ok (.newarray .int, 2) := by decide +kernel
theorem d_M_init_25 : decode b_M_init 25 = .ok (.putfield 16, 3) := by decide +kernel
theorem d_M_init_28 : decode b_M_init 28 = .ok (.aload_n 0, 1) := by decide +kernel
theorem d_M_init_29 : decode b_M_init 29 = .ok (.bipush 60, 2) := by decide +kernel
theorem d_M_init_31 : decode b_M_init 31 = .ok (.newarray .int, 2) := by decide +kernel
theorem d_M_init_33 : decode b_M_init 33 = .ok (.putfield 19, 3) := by decide +kernel
theorem d_M_init_36 : decode b_M_init 36 = .ok (.aload_n 0, 1) := by decide +kernel
theorem d_M_init_37 : decode b_M_init 37 = .ok (.bipush 60, 2) := by decide +kernel
theorem d_M_init_39 : decode b_M_init 39 = .ok (.newarray .int, 2) := by decide +kernel
theorem d_M_init_41 : decode b_M_init 41 = .ok (.putfield 22, 3) := by decide +kernel
theorem d_M_init_44 : decode b_M_init 44 = .ok (.aload_n 0, 1) := by decide +kernel
theorem d_M_init_45 : decode b_M_init 45 = .ok (.bipush 60, 2) := by decide +kernel
theorem d_M_init_47 : decode b_M_init 47 = .ok (.newarray .int, 2) := by decide +kernel
theorem d_M_init_49 : decode b_M_init 49 = .ok (.putfield 25, 3) := by decide +kernel
theorem d_M_init_52 : decode b_M_init 52 = .ok (.aload_n 0, 1) := by decide +kernel
theorem d_M_init_53 : decode b_M_init 53 = .ok (.sipush 360, 3) := by decide +kernel
theorem d_M_init_56 : decode b_M_init 56 = .ok (.newarray .int, 2) := by decide +kernel
theorem d_M_init_58 : decode b_M_init 58 = .ok (.putfield 28, 3) := by decide +kernel
theorem d_M_init_61 : decode b_M_init 61 = .ok (.aload_n 0, 1) := by decide +kernel
theorem d_M_init_62 : decode b_M_init 62 = .ok (.sipush 360, 3) := by decide +kernel
theorem d_M_init_65 : decode b_M_init 65 = .ok (.newarray .int, 2) := by decide +kernel
theorem d_M_init_67 : decode b_M_init 67 = .ok (.putfield 31, 3) := by decide +kernel
theorem d_M_init_70 : decode b_M_init 70 = .ok (.aload_n 0, 1) := by decide +kernel
theorem d_M_init_71 : decode b_M_init 71 = .ok (.sipush 360, 3) := by decide +kernel
theorem d_M_init_74 : decode b_M_init 74 = .ok (.newarray .long, 2) := by decide +kernel
theorem d_M_init_76 : decode b_M_init 76 = .ok (.putfield 34, 3) := by decide +kernel
theorem d_M_init_79 : decode b_M_init 79 = .ok (.aload_n 0, 1) := by decide +kernel
theorem d_M_init_80 : decode b_M_init 80 = .ok (.iconst 3, 1) := by decide +kernel
theorem d_M_init_81 : decode b_M_init 81 = .ok (.newarray .int, 2) := by decide +kernel
theorem d_M_init_83 : decode b_M_init 83 = .ok (.putfield 38, 3) := by decide +kernel
theorem d_M_init_86 : decode b_M_init 86 = .ok (.aload_n 0, 1) := by decide +kernel
theorem d_M_init_87 : decode b_M_init 87 = .ok (.bipush 90, 2) := by decide +kernel
theorem d_M_init_89 : decode b_M_init 89 = .ok (.newarray .int, 2) := by decide +kernel
theorem d_M_init_91 : decode b_M_init 91 = .ok (.putfield 41, 3) := by decide +kernel
theorem d_M_init_94 : decode b_M_init 94 = .ok (.aload_n 0, 1) := by decide +kernel
theorem d_M_init_95 : decode b_M_init 95 = .ok (.bipush 12, 2) := by decide +kernel
theorem d_M_init_97 : decode b_M_init 97 = .ok (.newarray .boolean, 2) := by decide +kernel
theorem d_M_init_99 : decode b_M_init 99 = .ok (.putfield 44, 3) := by decide +kernel
theorem d_M_init_102 : decode b_M_init 102 = .ok (.aload_n 0, 1) := by decide +kernel
theorem d_M_init_103 : decode b_M_init 103 = .ok (.bipush 12, 2) := by decide +kernel
theorem d_M_init_105 : decode b_M_init 105 = .ok (.newarray .int, 2) := by decide +kernel
theorem d_M_init_107 : decode b_M_init 107 = .ok (.putfield 48, 3) := by decide +kernel
theorem d_M_init_110 : decode b_M_init 110 = .ok (.aload_n 0, 1) := by decide +kernel
theorem d_M_init_111 : decode b_M_init 111 = .ok (.bipush 12, 2) := by decide +kernel
theorem d_M_init_113 : decode b_M_init 113 = .ok (.newarray .int, 2) := by decide +kernel
theorem d_M_init_115 : decode b_M_init 115 = .ok (.putfield 51, 3) := by decide +kernel
theorem d_M_init_118 : decode b_M_init 118 = .ok (.aload_n 0, 1) := by decide +kernel
theorem d_M_init_119 : decode b_M_init 119 = .ok (.bipush 12, 2) := by decide +kernel
theorem d_M_init_121 : decode b_M_init 121 = .ok (.newarray .int, 2) := by decide +kernel
theorem d_M_init_123 : decode b_M_init 123 = .ok (.putfield 54, 3) := by decide +kernel
theorem d_M_init_126 : decode b_M_init 126 = .ok (.aload_n 0, 1) := by decide +kernel
theorem d_M_init_127 : decode b_M_init 127 = .ok (.bipush 12, 2) := by decide +kernel
theorem d_M_init_129 : decode b_M_init 129 = .ok (.newarray .int, 2) := by decide +kernel
theorem d_M_init_131 : decode b_M_init 131 = .ok (.putfield 57, 3) := by decide +kernel
theorem d_M_init_134 : decode b_M_init 134 = .ok (.aload_n 0, 1) := by decide +kernel
theorem d_M_init_135 : decode b_M_init 135 = .ok (.bipush 12, 2) := by decide +kernel
theorem d_M_init_137 : decode b_M_init 137 = .ok (.newarray .int, 2) := by decide +kernel
theorem d_M_init_139 : decode b_M_init 139 = .ok (.putfield 60, 3) := by decide +kernel
theorem d_M_init_142 : decode b_M_init 142 = .ok (.aload_n 0, 1) := by decide +kernel
theorem d_M_init_143 : decode b_M_init 143 = .ok (.bipush 12, 2) := by decide +kernel
theorem d_M_init_145 : decode b_M_init 145 = .ok (.newarray .int, 2) := by decide +kernel
theorem d_M_init_147 : decode b_M_init 147 = .ok (.putfield 63, 3) := by decide +kernel
theorem d_M_init_150 : decode b_M_init 150 = .ok (.aload_n 0, 1) := by decide +kernel
theorem d_M_init_151 : decode b_M_init 151 = .ok (.bipush 12, 2) := by decide +kernel
theorem d_M_init_153 : decode b_M_init 153 = .ok (.newarray .long, 2) := by decide +kernel
theorem d_M_init_155 : decode b_M_init 155 = .ok (.putfield 66, 3) := by decide +kernel
theorem d_M_init_158 : decode b_M_init 158 = .ok (.aload_n 0, 1) := by decide +kernel
theorem d_M_init_159 : decode b_M_init 159 = .ok (.bipush 12, 2) := by decide +kernel
theorem d_M_init_161 : decode b_M_init 161 = .ok (.newarray .long, 2) := by decide +kernel
theorem d_M_init_163 : decode b_M_init 163 = .ok (.putfield 69, 3) := by decide +kernel
theorem d_M_init_166 : decode b_M_init 166 = .ok (.aload_n 0, 1) := by decide +kernel
theorem d_M_init_167 : decode b_M_init 167 = .ok (.bipush 60, 2) := by decide +kernel
theorem d_M_init_169 : decode b_M_init 169 = .ok (.newarray .long, 2) := by decide +kernel
theorem d_M_init_171 : decode b_M_init 171 = .ok (.putfield 72, 3) := by decide +kernel
theorem d_M_init_174 : decode b_M_init 174 = .ok (.aload_n 0, 1) := by decide +kernel
theorem d_M_init_175 : decode b_M_init 175 = .ok (.bipush 40, 2) := by decide +kernel
theorem d_M_init_177 : decode b_M_init 177 = .ok (.newarray .int, 2) := by decide +kernel
theorem d_M_init_179 : decode b_M_init 179 = .ok (.putfield 75, 3) := by decide +kernel
theorem d_M_init_182 : decode b_M_init 182 = .ok (.aload_n 0, 1) := by decide +kernel
theorem d_M_init_183 : decode b_M_init 183 = .ok (.bipush 40, 2) := by decide +kernel
theorem d_M_init_185 : decode b_M_init 185 = .ok (.newarray .int, 2) := by decide +kernel
theorem d_M_init_187 : decode b_M_init 187 = .ok (.putfield 78, 3) := by decide +kernel
theorem d_M_init_190 : decode b_M_init 190 = .ok (.aload_n 0, 1) := by decide +kernel
theorem d_M_init_191 : decode b_M_init 191 = .ok (.bipush 40, 2) := by decide +kernel
theorem d_M_init_193 : decode b_M_init 193 = .ok (.newarray .int, 2) := by decide +kernel
theorem d_M_init_195 : decode b_M_init 195 = .ok (.putfield 81, 3) := by decide +kernel
theorem d_M_init_198 : decode b_M_init 198 = .ok (.aload_n 0, 1) := by decide +kernel
theorem d_M_init_199 : decode b_M_init 199 = .ok (.iconst 5, 1) := by decide +kernel
theorem d_M_init_200 : decode b_M_init 200 = .ok (.newarray .int, 2) := by decide +kernel
theorem d_M_init_202 : decode b_M_init 202 = .ok (.putfield 84, 3) := by decide +kernel
theorem d_M_init_205 : decode b_M_init 205 = .ok (.aload_n 0, 1) := by decide +kernel
theorem d_M_init_206 : decode b_M_init 206 = .ok (.bipush 40, 2) := by decide +kernel
theorem d_M_init_208 : decode b_M_init 208 = .ok (.newarray .long, 2) := by decide +kernel
theorem d_M_init_210 : decode b_M_init 210 = .ok (.putfield 87, 3) := by decide +kernel
theorem d_M_init_213 : decode b_M_init 213 = .ok (.return_, 1) := by decide +kernel
theorem d_M_isThing_0 : decode b_M_isThing 0 = .ok (.iload_n 1, 1) := by decide +kernel
theorem d_M_isThing_1 : decode b_M_isThing 1 = .ok (.ifCond .lt 25, 3) := by decide +kernel
theorem d_M_isThing_4 : decode b_M_isThing 4 = .ok (.iload_n 1, 1) := by decide +kernel
theorem d_M_isThing_5 : decode b_M_isThing 5 = .ok (.aload_n 0, 1) := by decide +kernel
theorem d_M_isThing_6 : decode b_M_isThing 6 = .ok (.getfield 94, 3) := by decide +kernel
theorem d_M_isThing_9 : decode b_M_isThing 9 = .ok (.if_icmp .ge 17, 3) := by decide +kernel
theorem d_M_isThing_12 : decode b_M_isThing 12 = .ok (.aload_n 0, 1) := by decide +kernel
theorem d_M_isThing_13 : decode b_M_isThing 13 = .ok (.getfield 7, 3) := by decide +kernel
theorem d_M_isThing_16 : decode b_M_isThing 16 = .ok (.iload_n 1, 1) := by decide +kernel
theorem d_M_isThing_17 : decode b_M_isThing 17 = .ok (.iaload, 1) := by decide +kernel
theorem d_M_isThing_18 : decode b_M_isThing 18 = .ok (.iconst (-1), 1) := by decide +kernel
theorem d_M_isThing_19 : decode b_M_isThing 19 = .ok (.if_icmp .eq 7, 3) := by decide +kernel
theorem d_M_isThing_22 : decode b_M_isThing 22 = .ok (.iconst 1, 1) := by decide +kernel
theorem d_M_isThing_23 : decode b_M_isThing 23 = .ok (.goto 4, 3) := by decide +kernel
theorem d_M_isThing_26 : decode b_M_isThing 26 = .ok (.iconst 0, 1) := by decide +kernel
theorem d_M_isThing_27 : decode b_M_isThing 27 = .ok (.ireturn, 1) := by decide +kernel
theorem d_M_isHouse_0 : decode b_M_isHouse 0 = .ok (.aload_n 0, 1) := by decide +kernel
theorem d_M_isHouse_1 : decode b_M_isHouse 1 = .ok (.iload_n 1, 1) := by decide +kernel
theorem d_M_isHouse_2 : decode b_M_isHouse 2 = .ok (.invokevirtual 97, 3) := by decide +kernel
theorem d_M_isHouse_5 : decode b_M_isHouse 5 = .ok (.ifCond .eq 16, 3) := by decide +kernel
theorem d_M_isHouse_8 : decode b_M_isHouse 8 = .ok (.aload_n 0, 1) := by decide +kernel
theorem d_M_isHouse_9 : decode b_M_isHouse 9 = .ok (.getfield 7, 3) := by decide +kernel
theorem d_M_isHouse_12 : decode b_M_isHouse 12 = .ok (.iload_n 1, 1) := by decide +kernel
theorem d_M_isHouse_13 : decode b_M_isHouse 13 = .ok (.iaload, 1) := by decide +kernel
theorem d_M_isHouse_14 : decode b_M_isHouse 14 = .ok (.ifCond .ne 7, 3) := by decide +kernel
theorem d_M_isHouse_17 : decode b_M_isHouse 17 = .ok (.iconst 1, 1) := by decide +kernel
theorem d_M_isHouse_18 : decode b_M_isHouse 18 = .ok (.goto 4, 3) := by decide +kernel
theorem d_M_isHouse_21 : decode b_M_isHouse 21 = .ok (.iconst 0, 1) := by decide +kernel
theorem d_M_isHouse_22 : decode b_M_isHouse 22 = .ok (.ireturn, 1) := by decide +kernel
theorem d_M_isDefined_0 : decode b_M_isDefined 0 = .ok (.iload_n 1, 1) := by decide +kernel
theorem d_M_isDefined_1 : decode b_M_isDefined 1 = .ok (.ifCond .lt 22, 3) := by decide +kernel
theorem d_M_isDefined_4 : decode b_M_isDefined 4 = .ok (.iload_n 1, 1) := by decide +kernel
theorem d_M_isDefined_5 : decode b_M_isDefined 5 = .ok (.bipush 12, 2) := by decide +kernel
theorem d_M_isDefined_7 : decode b_M_isDefined 7 = .ok (.if_icmp .ge 16, 3) := by decide +kernel
theorem d_M_isDefined_10 : decode b_M_isDefined 10 = .ok (.aload_n 0, 1) := by decide +kernel
theorem d_M_isDefined_11 : decode b_M_isDefined 11 = .ok (.getfield 44, 3) := by decide +kernel
theorem d_M_isDefined_14 : decode b_M_isDefined 14 = .ok (.iload_n 1, 1) := by decide +kernel
theorem d_M_isDefined_15 : decode b_M_isDefined 15 = .ok (.baload, 1) := by decide +kernel
theorem d_M_isDefined_16 : decode b_M_isDefined 16 = .ok (.ifCond .eq 7, 3) := by decide +kernel
theorem d_M_isDefined_19 : decode b_M_isDefined 19 = .ok (.iconst 1, 1) := by decide +kernel
theorem d_M_isDefined_20 : decode b_M_isDefined 20 = .ok (.goto 4, 3) := by decide +kernel
theorem d_M_isDefined_23 : decode b_M_isDefined 23 = .ok (.iconst 0, 1) := by decide +kernel
theorem d_M_isDefined_24 : decode b_M_isDefined 24 = .ok (.ireturn, 1) := by decide +kernel
theorem d_M_liesIn_0 : decode b_M_liesIn 0 = .ok (.iload_n 0, 1) := by decide +kernel
theorem d_M_liesIn_1 : decode b_M_liesIn 1 = .ok (.tableswitch 62 0 8 #[51, 53, 53, 55, 57, 57, 53, 59, 53], 51) := by decide +kernel
theorem d_M_liesIn_52 : decode b_M_liesIn 52 = .ok (.iconst (-1), 1) := by decide +kernel
theorem d_M_liesIn_53 : decode b_M_liesIn 53 = .ok (.ireturn, 1) := by decide +kernel
theorem d_M_liesIn_54 : decode b_M_liesIn 54 = .ok (.iconst 0, 1) := by decide +kernel
theorem d_M_liesIn_55 : decode b_M_liesIn 55 = .ok (.ireturn, 1) := by decide +kernel
theorem d_M_liesIn_56 : decode b_M_liesIn 56 = .ok (.iconst 1, 1) := by decide +kernel
theorem d_M_liesIn_57 : decode b_M_liesIn 57 = .ok (.ireturn, 1) := by decide +kernel
theorem d_M_liesIn_58 : decode b_M_liesIn 58 = .ok (.iconst 3, 1) := by decide +kernel
theorem d_M_liesIn_59 : decode b_M_liesIn 59 = .ok (.ireturn, 1) := by decide +kernel
theorem d_M_liesIn_60 : decode b_M_liesIn 60 = .ok (.bipush 6, 2) := by decide +kernel
theorem d_M_liesIn_62 : decode b_M_liesIn 62 = .ok (.ireturn, 1) := by decide +kernel
theorem d_M_liesIn_63 : decode b_M_liesIn 63 = .ok (.bipush (-2), 2) := by decide +kernel
theorem d_M_liesIn_65 : decode b_M_liesIn 65 = .ok (.ireturn, 1) := by decide +kernel
theorem d_M_make_0 : decode b_M_make 0 = .ok (.aload_n 0, 1) := by decide +kernel
theorem d_M_make_1 : decode b_M_make 1 = .ok (.iconst 0, 1) := by decide +kernel
theorem d_M_make_2 : decode b_M_make 2 = .ok (.putfield 90, 3) := by decide +kernel
theorem d_M_make_5 : decode b_M_make 5 = .ok (.iload_n 1, 1) := by decide +kernel
theorem d_M_make_6 : decode b_M_make 6 = .ok (.invokestatic 101, 3) := by decide +kernel
theorem d_M_make_9 : decode b_M_make 9 = .ok (.istore_n 3, 1) := by decide +kernel
theorem d_M_make_10 : decode b_M_make 10 = .ok (.iload_n 3, 1) := by decide +kernel
theorem d_M_make_11 : decode b_M_make 11 = .ok (.bipush (-2), 2) := by decide +kernel
theorem d_M_make_13 : decode b_M_make 13 = .ok (.if_icmp .eq 12, 3) := by decide +kernel
theorem d_M_make_16 : decode b_M_make 16 = .ok (.aload_n 0, 1) := by decide +kernel
theorem d_M_make_17 : decode b_M_make 17 = .ok (.getfield 94, 3) := by decide +kernel
theorem d_M_make_20 : decode b_M_make 20 = .ok (.bipush 60, 2) := by decide +kernel
theorem d_M_make_22 : decode b_M_make 22 = .ok (.if_icmp .ne 5, 3) := by decide +kernel
theorem d_M_make_25 : decode b_M_make 25 = .ok (.iconst (-1), 1) := by decide +kernel
theorem d_M_make_26 : decode b_M_make 26 = .ok (.ireturn, 1) := by decide +kernel
theorem d_M_make_27 : decode b_M_make 27 = .ok (.iload_n 1, 1) := by decide +kernel
theorem d_M_make_28 : decode b_M_make 28 = .ok (.ifCond .eq 37, 3) := by decide +kernel
theorem d_M_make_31 : decode b_M_make 31 = .ok (.aload_n 0, 1) := by decide +kernel
theorem d_M_make_32 : decode b_M_make 32 = .ok (.iload_n 2, 1) := by decide +kernel
theorem d_M_make_33 : decode b_M_make 33 = .ok (.invokevirtual 97, 3) := by decide +kernel
theorem d_M_make_36 : decode b_M_make 36 = .ok (.ifCond .eq 27, 3) := by decide +kernel
theorem d_M_make_39 : decode b_M_make 39 = .ok (.aload_n 0, 1) := by decide +kernel
theorem d_M_make_40 : decode b_M_make 40 = .ok (.getfield 7, 3) := by decide +kernel
theorem d_M_make_43 : decode b_M_make 43 = .ok (.iload_n 2, 1) := by decide +kernel
theorem d_M_make_44 : decode b_M_make 44 = .ok (.iaload, 1) := by decide +kernel
theorem d_M_make_45 : decode b_M_make 45 = .ok (.iload_n 3, 1) := by decide +kernel
theorem d_M_make_46 : decode b_M_make 46 = .ok (.if_icmp .ne 17, 3) := by decide +kernel
theorem d_M_make_49 : decode b_M_make 49 = .ok (.aload_n 0, 1) := by decide +kernel
theorem d_M_make_50 : decode b_M_make 50 = .ok (.getfield 19, 3) := by decide +kernel
theorem d_M_make_53 : decode b_M_make 53 = .ok (.aload_n 0, 1) := by decide +kernel
theorem d_M_make_54 : decode b_M_make 54 = .ok (.getfield 16, 3) := by decide +kernel
theorem d_M_make_57 : decode b_M_make 57 = .ok (.iload_n 2, 1) := by decide +kernel
theorem d_M_make_58 : decode b_M_make 58 = .ok (.iaload, 1) := by decide +kernel
theorem d_M_make_59 : decode b_M_make 59 = .ok (.iaload, 1) := by decide +kernel
theorem d_M_make_60 : decode b_M_make 60 = .ok (.ifCond .le 5, 3) := by decide +kernel
theorem d_M_make_63 : decode b_M_make 63 = .ok (.iconst (-1), 1) := by decide +kernel
theorem d_M_make_64 : decode b_M_make 64 = .ok (.ireturn, 1) := by decide +kernel
theorem d_M_make_65 : decode b_M_make 65 = .ok (.aload_n 0, 1) := by decide +kernel
theorem d_M_make_66 : decode b_M_make 66 = .ok (.getfield 7, 3) := by decide +kernel
theorem d_M_make_69 : decode b_M_make 69 = .ok (.aload_n 0, 1) := by decide +kernel
theorem d_M_make_70 : decode b_M_make 70 = .ok (.getfield 94, 3) := by decide +kernel
theorem d_M_make_73 : decode b_M_make 73 = .ok (.iload_n 1, 1) := by decide +kernel
theorem d_M_make_74 : decode b_M_make 74 = .ok (.iastore, 1) := by decide +kernel
theorem d_M_make_75 : decode b_M_make 75 = .ok (.aload_n 0, 1) := by decide +kernel
theorem d_M_make_76 : decode b_M_make 76 = .ok (.getfield 13, 3) := by decide +kernel
theorem d_M_make_79 : decode b_M_make 79 = .ok (.aload_n 0, 1) := by decide +kernel
theorem d_M_make_80 : decode b_M_make 80 = .ok (.getfield 94, 3) := by decide +kernel
theorem d_M_make_83 : decode b_M_make 83 = .ok (.iload_n 1, 1) := by decide +kernel
theorem d_M_make_84 : decode b_M_make 84 = .ok (.ifCond .ne 7, 3) := by decide +kernel
theorem d_M_make_87 : decode b_M_make 87 = .ok (.iconst (-1), 1) := by decide +kernel
theorem d_M_make_88 : decode b_M_make 88 = .ok (.goto 4, 3) := by decide +kernel
theorem d_M_make_91 : decode b_M_make 91 = .ok (.iload_n 2, 1) := by decide +kernel
theorem d_M_make_92 : decode b_M_make 92 = .ok (.iastore, 1) := by decide +kernel
theorem d_M_make_93 : decode b_M_make 93 = .ok (.aload_n 0, 1) := by decide +kernel
theorem d_M_make_94 : decode b_M_make 94 = .ok (.getfield 16, 3) := by decide +kernel
theorem d_M_make_97 : decode b_M_make 97 = .ok (.aload_n 0, 1) := by decide +kernel
theorem d_M_make_98 : decode b_M_make 98 = .ok (.getfield 94, 3) := by decide +kernel
theorem d_M_make_101 : decode b_M_make 101 = .ok (.iload_n 1, 1) := by decide +kernel
theorem d_M_make_102 : decode b_M_make 102 = .ok (.ifCond .ne 10, 3) := by decide +kernel
theorem d_M_make_105 : decode b_M_make 105 = .ok (.aload_n 0, 1) := by decide +kernel
theorem d_M_make_106 : decode b_M_make 106 = .ok (.getfield 94, 3) := by decide +kernel
theorem d_M_make_109 : decode b_M_make 109 = .ok (.goto 9, 3) := by decide +kernel
theorem d_M_make_112 : decode b_M_make 112 = .ok (.aload_n 0, 1) := by decide +kernel
theorem d_M_make_113 : decode b_M_make 113 = .ok (.getfield 16, 3) := by decide +kernel
theorem d_M_make_116 : decode b_M_make 116 = .ok (.iload_n 2, 1) := by decide +kernel
theorem d_M_make_117 : decode b_M_make 117 = .ok (.iaload, 1) := by decide +kernel
theorem d_M_make_118 : decode b_M_make 118 = .ok (.iastore, 1) := by decide +kernel
theorem d_M_make_119 : decode b_M_make 119 = .ok (.aload_n 0, 1) := by decide +kernel
theorem d_M_make_120 : decode b_M_make 120 = .ok (.dup, 1) := by decide +kernel
theorem d_M_make_121 : decode b_M_make 121 = .ok (.getfield 94, 3) := by decide +kernel
theorem d_M_make_124 : decode b_M_make 124 = .ok (.iconst 1, 1) := by decide +kernel
theorem d_M_make_125 : decode b_M_make 125 = .ok (.iadd, 1) := by decide +kernel
theorem d_M_make_126 : decode b_M_make 126 = .ok (.putfield 94, 3) := by decide +kernel
theorem d_M_make_129 : decode b_M_make 129 = .ok (.aload_n 0, 1) := by decide +kernel
theorem d_M_make_130 : decode b_M_make 130 = .ok (.getfield 94, 3) := by decide +kernel
theorem d_M_make_133 : decode b_M_make 133 = .ok (.iconst 1, 1) := by decide +kernel
theorem d_M_make_134 : decode b_M_make 134 = .ok (.isub, 1) := by decide +kernel
theorem d_M_make_135 : decode b_M_make 135 = .ok (.ireturn, 1) := by decide +kernel
theorem d_M_drop_0 : decode b_M_drop 0 = .ok (.aload_n 0, 1) := by decide +kernel
theorem d_M_drop_1 : decode b_M_drop 1 = .ok (.iconst 0, 1) := by decide +kernel
theorem d_M_drop_2 : decode b_M_drop 2 = .ok (.putfield 90, 3) := by decide +kernel
theorem d_M_drop_5 : decode b_M_drop 5 = .ok (.aload_n 0, 1) := by decide +kernel
theorem d_M_drop_6 : decode b_M_drop 6 = .ok (.iload_n 1, 1) := by decide +kernel
theorem d_M_drop_7 : decode b_M_drop 7 = .ok (.invokevirtual 97, 3) := by decide +kernel
theorem d_M_drop_10 : decode b_M_drop 10 = .ok (.ifCond .eq 17, 3) := by decide +kernel
theorem d_M_drop_13 : decode b_M_drop 13 = .ok (.aload_n 0, 1) := by decide +kernel
theorem d_M_drop_14 : decode b_M_drop 14 = .ok (.getfield 19, 3) := by decide +kernel
theorem d_M_drop_17 : decode b_M_drop 17 = .ok (.aload_n 0, 1) := by decide +kernel
theorem d_M_drop_18 : decode b_M_drop 18 = .ok (.getfield 16, 3) := by decide +kernel
theorem d_M_drop_21 : decode b_M_drop 21 = .ok (.iload_n 1, 1) := by decide +kernel
theorem d_M_drop_22 : decode b_M_drop 22 = .ok (.iaload, 1) := by decide +kernel
theorem d_M_drop_23 : decode b_M_drop 23 = .ok (.iaload, 1) := by decide +kernel
theorem d_M_drop_24 : decode b_M_drop 24 = .ok (.ifCond .le 5, 3) := by decide +kernel
theorem d_M_drop_27 : decode b_M_drop 27 = .ok (.iconst (-1), 1) := by decide +kernel
theorem d_M_drop_28 : decode b_M_drop 28 = .ok (.ireturn, 1) := by decide +kernel
theorem d_M_drop_29 : decode b_M_drop 29 = .ok (.aload_n 0, 1) := by decide +kernel
theorem d_M_drop_30 : decode b_M_drop 30 = .ok (.getfield 7, 3) := by decide +kernel
theorem d_M_drop_33 : decode b_M_drop 33 = .ok (.iload_n 1, 1) := by decide +kernel
theorem d_M_drop_34 : decode b_M_drop 34 = .ok (.iconst (-1), 1) := by decide +kernel
theorem d_M_drop_35 : decode b_M_drop 35 = .ok (.iastore, 1) := by decide +kernel
theorem d_M_drop_36 : decode b_M_drop 36 = .ok (.iconst 1, 1) := by decide +kernel
theorem d_M_drop_37 : decode b_M_drop 37 = .ok (.istore_n 2, 1) := by decide +kernel
theorem d_M_drop_38 : decode b_M_drop 38 = .ok (.iload_n 1, 1) := by decide +kernel
theorem d_M_drop_39 : decode b_M_drop 39 = .ok (.iconst 1, 1) := by decide +kernel
theorem d_M_drop_40 : decode b_M_drop 40 = .ok (.iadd, 1) := by decide +kernel
theorem d_M_drop_41 : decode b_M_drop 41 = .ok (.istore_n 3, 1) := by decide +kernel
theorem d_M_drop_42 : decode b_M_drop 42 = .ok (.iload_n 3, 1) := by decide +kernel
theorem d_M_drop_43 : decode b_M_drop 43 = .ok (.aload_n 0, 1) := by decide +kernel
theorem d_M_drop_44 : decode b_M_drop 44 = .ok (.getfield 94, 3) := by decide +kernel
theorem d_M_drop_47 : decode b_M_drop 47 = .ok (.if_icmp .ge 57, 3) := by decide +kernel
theorem d_M_drop_50 : decode b_M_drop 50 = .ok (.aload_n 0, 1) := by decide +kernel
theorem d_M_drop_51 : decode b_M_drop 51 = .ok (.getfield 7, 3) := by decide +kernel
theorem d_M_drop_54 : decode b_M_drop 54 = .ok (.iload_n 3, 1) := by decide +kernel
theorem d_M_drop_55 : decode b_M_drop 55 = .ok (.iaload, 1) := by decide +kernel
theorem d_M_drop_56 : decode b_M_drop 56 = .ok (.iconst (-1), 1) := by decide +kernel
theorem d_M_drop_57 : decode b_M_drop 57 = .ok (.if_icmp .eq 41, 3) := by decide +kernel
theorem d_M_drop_60 : decode b_M_drop 60 = .ok (.aload_n 0, 1) := by decide +kernel
theorem d_M_drop_61 : decode b_M_drop 61 = .ok (.getfield 13, 3) := by decide +kernel
theorem d_M_drop_64 : decode b_M_drop 64 = .ok (.iload_n 3, 1) := by decide +kernel
theorem d_M_drop_65 : decode b_M_drop 65 = .ok (.iaload, 1) := by decide +kernel
theorem d_M_drop_66 : decode b_M_drop 66 = .ok (.iconst (-1), 1) := by decide +kernel
theorem d_M_drop_67 : decode b_M_drop 67 = .ok (.if_icmp .eq 31, 3) := by decide +kernel
theorem d_M_drop_70 : decode b_M_drop 70 = .ok (.aload_n 0, 1) := by decide +kernel
theorem d_M_drop_71 : decode b_M_drop 71 = .ok (.getfield 7, 3) := by decide +kernel
theorem d_M_drop_74 : decode b_M_drop 74 = .ok (.aload_n 0, 1) := by decide +kernel
theorem d_M_drop_75 : decode b_M_drop 75 = .ok (.getfield 13, 3) := by decide +kernel
theorem d_M_drop_78 : decode b_M_drop 78 = .ok (.iload_n 3, 1) := by decide +kernel
theorem d_M_drop_79 : decode b_M_drop 79 = .ok (.iaload, 1) := by decide +kernel
theorem d_M_drop_80 : decode b_M_drop 80 = .ok (.iaload, 1) := by decide +kernel
theorem d_M_drop_81 : decode b_M_drop 81 = .ok (.iconst (-1), 1) := by decide +kernel
theorem d_M_drop_82 : decode b_M_drop 82 = .ok (.if_icmp .eq 6, 3) := by decide +kernel
theorem d_M_drop_85 : decode b_M_drop 85 = .ok (.goto 13, 3) := by decide +kernel
theorem d_M_drop_88 : decode b_M_drop 88 = .ok (.aload_n 0, 1) := by decide +kernel
theorem d_M_drop_89 : decode b_M_drop 89 = .ok (.getfield 7, 3) := by decide +kernel
theorem d_M_drop_92 : decode b_M_drop 92 = .ok (.iload_n 3, 1) := by decide +kernel
theorem d_M_drop_93 : decode b_M_drop 93 = .ok (.iconst (-1), 1) := by decide +kernel
theorem d_M_drop_94 : decode b_M_drop 94 = .ok (.iastore, 1) := by decide +kernel
theorem d_M_drop_95 : decode b_M_drop 95 = .ok (.iinc 2 1, 3) := by decide +kernel
theorem d_M_drop_98 : decode b_M_drop 98 = .ok (.iinc 3 1, 3) := by decide +kernel
theorem d_M_drop_101 : decode b_M_drop 101 = .ok (.goto (-59), 3) := by decide +kernel
theorem d_M_drop_104 : decode b_M_drop 104 = .ok (.iload_n 2, 1) := by decide +kernel
theorem d_M_drop_105 : decode b_M_drop 105 = .ok (.ireturn, 1) := by decide +kernel
theorem d_M_numbers_0 : decode b_M_numbers 0 = .ok (.aload_n 0, 1) := by decide +kernel
theorem d_M_numbers_1 : decode b_M_numbers 1 = .ok (.iconst 0, 1) := by decide +kernel
theorem d_M_numbers_2 : decode b_M_numbers 2 = .ok (.putfield 90, 3) := by decide +kernel
theorem d_M_numbers_5 : decode b_M_numbers 5 = .ok (.iload_n 1, 1) := by decide +kernel
theorem d_M_numbers_6 : decode b_M_numbers 6 = .ok (.ifCond .lt 9, 3) := by decide +kernel
theorem d_M_numbers_9 : decode b_M_numbers 9 = .ok (.iload_n 1, 1) := by decide +kernel
theorem d_M_numbers_10 : decode b_M_numbers 10 = .ok (.bipush 8, 2) := by decide +kernel
theorem d_M_numbers_12 : decode b_M_numbers 12 = .ok (.if_icmp .le 5, 3) := by decide +kernel
theorem d_M_numbers_15 : decode b_M_numbers 15 = .ok (.iconst (-1), 1) := by decide +kernel
theorem d_M_numbers_16 : decode b_M_numbers 16 = .ok (.ireturn, 1) := by decide +kernel
theorem d_M_numbers_17 : decode b_M_numbers 17 = .ok (.iconst 0, 1) := by decide +kernel
theorem d_M_numbers_18 : decode b_M_numbers 18 = .ok (.istore_n 2, 1) := by decide +kernel
theorem d_M_numbers_19 : decode b_M_numbers 19 = .ok (.iconst 0, 1) := by decide +kernel
theorem d_M_numbers_20 : decode b_M_numbers 20 = .ok (.istore_n 3, 1) := by decide +kernel
theorem d_M_numbers_21 : decode b_M_numbers 21 = .ok (.iload_n 3, 1) := by decide +kernel
theorem d_M_numbers_22 : decode b_M_numbers 22 = .ok (.aload_n 0, 1) := by decide +kernel
theorem d_M_numbers_23 : decode b_M_numbers 23 = .ok (.getfield 94, 3) := by decide +kernel
theorem d_M_numbers_26 : decode b_M_numbers 26 = .ok (.if_icmp .ge 27, 3) := by decide +kernel
theorem d_M_numbers_29 : decode b_M_numbers 29 = .ok (.iload_n 2, 1) := by decide +kernel
theorem d_M_numbers_30 : decode b_M_numbers 30 = .ok (.aload_n 0, 1) := by decide +kernel
theorem d_M_numbers_31 : decode b_M_numbers 31 = .ok (.getfield 7, 3) := by decide +kernel
theorem d_M_numbers_34 : decode b_M_numbers 34 = .ok (.iload_n 3, 1) := by decide +kernel
theorem d_M_numbers_35 : decode b_M_numbers 35 = .ok (.iaload, 1) := by decide +kernel
theorem d_M_numbers_36 : decode b_M_numbers 36 = .ok (.iload_n 1, 1) := by decide +kernel
theorem d_M_numbers_37 : decode b_M_numbers 37 = .ok (.if_icmp .ne 7, 3) := by decide +kernel
theorem d_M_numbers_40 : decode b_M_numbers 40 = .ok (.iconst 1, 1) := by decide +kernel
theorem d_M_numbers_41 : decode b_M_numbers 41 = .ok (.goto 4, 3) := by decide +kernel
theorem d_M_numbers_44 : decode b_M_numbers 44 = .ok (.iconst 0, 1) := by decide +kernel
theorem d_M_numbers_45 : decode b_M_numbers 45 = .ok (.iadd, 1) := by decide +kernel
theorem d_M_numbers_46 : decode b_M_numbers 46 = .ok (.istore_n 2, 1) := by decide +kernel
theorem d_M_numbers_47 : decode b_M_numbers 47 = .ok (.iinc 3 1, 3) := by decide +kernel
theorem d_M_numbers_50 : decode b_M_numbers 50 = .ok (.goto (-29), 3) := by decide +kernel
theorem d_M_numbers_53 : decode b_M_numbers 53 = .ok (.iload_n 2, 1) := by decide +kernel
theorem d_M_numbers_54 : decode b_M_numbers 54 = .ok (.ireturn, 1) := by decide +kernel
theorem d_M_about_0 : decode b_M_about 0 = .ok (.aload_n 0, 1) := by decide +kernel
theorem d_M_about_1 : decode b_M_about 1 = .ok (.iconst 0, 1) := by decide +kernel
theorem d_M_about_2 : decode b_M_about 2 = .ok (.putfield 90, 3) := by decide +kernel
theorem d_M_about_5 : decode b_M_about 5 = .ok (.aload_n 0, 1) := by decide +kernel
theorem d_M_about_6 : decode b_M_about 6 = .ok (.iload_n 1, 1) := by decide +kernel
theorem d_M_about_7 : decode b_M_about 7 = .ok (.invokevirtual 97, 3) := by decide +kernel
theorem d_M_about_10 : decode b_M_about 10 = .ok (.ifCond .ne 5, 3) := by decide +kernel
theorem d_M_about_13 : decode b_M_about 13 = .ok (.iconst (-1), 1) := by decide +kernel
theorem d_M_about_14 : decode b_M_about 14 = .ok (.ireturn, 1) := by decide +kernel
theorem d_M_about_15 : decode b_M_about 15 = .ok (.iconst 0, 1) := by decide +kernel
theorem d_M_about_16 : decode b_M_about 16 = .ok (.istore_n 3, 1) := by decide +kernel
theorem d_M_about_17 : decode b_M_about 17 = .ok (.iconst 0, 1) := by decide +kernel
theorem d_M_about_18 : decode b_M_about 18 = .ok (.istore 4, 2) := by decide +kernel
theorem d_M_about_20 : decode b_M_about 20 = .ok (.iload 4, 2) := by decide +kernel
theorem d_M_about_22 : decode b_M_about 22 = .ok (.aload_n 0, 1) := by decide +kernel
theorem d_M_about_23 : decode b_M_about 23 = .ok (.getfield 94, 3) := by decide +kernel
theorem d_M_about_26 : decode b_M_about 26 = .ok (.if_icmp .ge 39, 3) := by decide +kernel
theorem d_M_about_29 : decode b_M_about 29 = .ok (.iload_n 3, 1) := by decide +kernel
theorem d_M_about_30 : decode b_M_about 30 = .ok (.aload_n 0, 1) := by decide +kernel
theorem d_M_about_31 : decode b_M_about 31 = .ok (.getfield 7, 3) := by decide +kernel
theorem d_M_about_34 : decode b_M_about 34 = .ok (.iload 4, 2) := by decide +kernel
theorem d_M_about_36 : decode b_M_about 36 = .ok (.iaload, 1) := by decide +kernel
theorem d_M_about_37 : decode b_M_about 37 = .ok (.iconst (-1), 1) := by decide +kernel
theorem d_M_about_38 : decode b_M_about 38 = .ok (.if_icmp .eq 18, 3) := by decide +kernel
theorem d_M_about_41 : decode b_M_about 41 = .ok (.aload_n 0, 1) := by decide +kernel
theorem d_M_about_42 : decode b_M_about 42 = .ok (.getfield 13, 3) := by decide +kernel
theorem d_M_about_45 : decode b_M_about 45 = .ok (.iload 4, 2) := by decide +kernel
theorem d_M_about_47 : decode b_M_about 47 = .ok (.iaload, 1) := by decide +kernel
theorem d_M_about_48 : decode b_M_about 48 = .ok (.iload_n 1, 1) := by decide +kernel
theorem d_M_about_49 : decode b_M_about 49 = .ok (.if_icmp .ne 7, 3) := by decide +kernel
theorem d_M_about_52 : decode b_M_about 52 = .ok (.iconst 1, 1) := by decide +kernel
theorem d_M_about_53 : decode b_M_about 53 = .ok (.goto 4, 3) := by decide +kernel
theorem d_M_about_56 : decode b_M_about 56 = .ok (.iconst 0, 1) := by decide +kernel
theorem d_M_about_57 : decode b_M_about 57 = .ok (.iadd, 1) := by decide +kernel
theorem d_M_about_58 : decode b_M_about 58 = .ok (.istore_n 3, 1) := by decide +kernel
theorem d_M_about_59 : decode b_M_about 59 = .ok (.iinc 4 1, 3) := by decide +kernel
theorem d_M_about_62 : decode b_M_about 62 = .ok (.goto (-42), 3) := by decide +kernel
theorem d_M_about_65 : decode b_M_about 65 = .ok (.iload_n 2, 1) := by decide +kernel
theorem d_M_about_66 : decode b_M_about 66 = .ok (.tableswitch 53 0 3 #[30, 37, 44, 51], 30) := by decide +kernel
theorem d_M_about_96 : decode b_M_about 96 = .ok (.aload_n 0, 1) := by decide +kernel
theorem d_M_about_97 : decode b_M_about 97 = .ok (.getfield 7, 3) := by decide +kernel
theorem d_M_about_100 : decode b_M_about 100 = .ok (.iload_n 1, 1) := by decide +kernel
theorem d_M_about_101 : decode b_M_about 101 = .ok (.iaload, 1) := by decide +kernel
theorem d_M_about_102 : decode b_M_about 102 = .ok (.ireturn, 1) := by decide +kernel
theorem d_M_about_103 : decode b_M_about 103 = .ok (.aload_n 0, 1) := by decide +kernel
theorem d_M_about_104 : decode b_M_about 104 = .ok (.getfield 13, 3) := by decide +kernel
theorem d_M_about_107 : decode b_M_about 107 = .ok (.iload_n 1, 1) := by decide +kernel
theorem d_M_about_108 : decode b_M_about 108 = .ok (.iaload, 1) := by decide +kernel
theorem d_M_about_109 : decode b_M_about 109 = .ok (.ireturn, 1) := by decide +kernel
theorem d_M_about_110 : decode b_M_about 110 = .ok (.aload_n 0, 1) := by decide +kernel
theorem d_M_about_111 : decode b_M_about 111 = .ok (.getfield 16, 3) := by decide +kernel
theorem d_M_about_114 : decode b_M_about 114 = .ok (.iload_n 1, 1) := by decide +kernel
theorem d_M_about_115 : decode b_M_about 115 = .ok (.iaload, 1) := by decide +kernel
theorem d_M_about_116 : decode b_M_about 116 = .ok (.ireturn, 1) := by decide +kernel
theorem d_M_about_117 : decode b_M_about 117 = .ok (.iload_n 3, 1) := by decide +kernel
theorem d_M_about_118 : decode b_M_about 118 = .ok (.ireturn, 1) := by decide +kernel
theorem d_M_about_119 : decode b_M_about 119 = .ok (.iconst (-1), 1) := by decide +kernel
theorem d_M_about_120 : decode b_M_about 120 = .ok (.ireturn, 1) := by decide +kernel
theorem d_M_isSort_0 : decode b_M_isSort 0 = .ok (.iload_n 0, 1) := by decide +kernel
theorem d_M_isSort_1 : decode b_M_isSort 1 = .ok (.ifCond .lt 12, 3) := by decide +kernel
theorem d_M_isSort_4 : decode b_M_isSort 4 = .ok (.iload_n 0, 1) := by decide +kernel
theorem d_M_isSort_5 : decode b_M_isSort 5 = .ok (.iconst 3, 1) := by decide +kernel
theorem d_M_isSort_6 : decode b_M_isSort 6 = .ok (.if_icmp .ge 7, 3) := by decide +kernel
theorem d_M_isSort_9 : decode b_M_isSort 9 = .ok (.iconst 1, 1) := by decide +kernel
theorem d_M_isSort_10 : decode b_M_isSort 10 = .ok (.goto 4, 3) := by decide +kernel
theorem d_M_isSort_13 : decode b_M_isSort 13 = .ok (.iconst 0, 1) := by decide +kernel
theorem d_M_isSort_14 : decode b_M_isSort 14 = .ok (.ireturn, 1) := by decide +kernel
theorem d_M_collect_0 : decode b_M_collect 0 = .ok (.aload_n 0, 1) := by decide +kernel
theorem d_M_collect_1 : decode b_M_collect 1 = .ok (.iconst 0, 1) := by decide +kernel
theorem d_M_collect_2 : decode b_M_collect 2 = .ok (.putfield 90, 3) := by decide +kernel
theorem d_M_collect_5 : decode b_M_collect 5 = .ok (.iload_n 1, 1) := by decide +kernel
theorem d_M_collect_6 : decode b_M_collect 6 = .ok (.invokestatic 105, 3) := by decide +kernel
theorem d_M_collect_9 : decode b_M_collect 9 = .ok (.ifCond .eq 23, 3) := by decide +kernel
theorem d_M_collect_12 : decode b_M_collect 12 = .ok (.aload_n 0, 1) := by decide +kernel
theorem d_M_collect_13 : decode b_M_collect 13 = .ok (.getfield 38, 3) := by decide +kernel
theorem d_M_collect_16 : decode b_M_collect 16 = .ok (.iload_n 1, 1) := by decide +kernel
theorem d_M_collect_17 : decode b_M_collect 17 = .ok (.iaload, 1) := by decide +kernel
theorem d_M_collect_18 : decode b_M_collect 18 = .ok (.iload_n 1, 1) := by decide +kernel
theorem d_M_collect_19 : decode b_M_collect 19 = .ok (.ifCond .ne 8, 3) := by decide +kernel
theorem d_M_collect_22 : decode b_M_collect 22 = .ok (.bipush 30, 2) := by decide +kernel
theorem d_M_collect_24 : decode b_M_collect 24 = .ok (.goto 5, 3) := by decide +kernel
theorem d_M_collect_27 : decode b_M_collect 27 = .ok (.bipush 20, 2) := by decide +kernel
theorem d_M_collect_29 : decode b_M_collect 29 = .ok (.if_icmp .ne 5, 3) := by decide +kernel
theorem d_M_collect_32 : decode b_M_collect 32 = .ok (.iconst (-1), 1) := by decide +kernel
theorem d_M_collect_33 : decode b_M_collect 33 = .ok (.ireturn, 1) := by decide +kernel
theorem d_M_collect_34 : decode b_M_collect 34 = .ok (.iload_n 1, 1) := by decide +kernel
theorem d_M_collect_35 : decode b_M_collect 35 = .ok (.ifCond .ne 23, 3) := by decide +kernel
theorem d_M_collect_38 : decode b_M_collect 38 = .ok (.iload_n 2, 1) := by decide +kernel
theorem d_M_collect_39 : decode b_M_collect 39 = .ok (.bipush 31, 2) := by decide +kernel
theorem d_M_collect_41 : decode b_M_collect 41 = .ok (.if_icmp .le 13, 3) := by decide +kernel
theorem d_M_collect_44 : decode b_M_collect 44 = .ok (.iload_n 2, 1) := by decide +kernel
theorem d_M_collect_45 : decode b_M_collect 45 = .ok (.bipush 127, 2) := by decide +kernel
theorem d_M_collect_47 : decode b_M_collect 47 = .ok (.if_icmp .ge 7, 3) := by decide +kernel
theorem d_M_collect_50 : decode b_M_collect 50 = .ok (.iconst 1, 1) := by decide +kernel
theorem d_M_collect_51 : decode b_M_collect 51 = .ok (.goto 60, 3) := by decide +kernel
theorem d_M_collect_54 : decode b_M_collect 54 = .ok (.iconst 0, 1) := by decide +kernel
theorem d_M_collect_55 : decode b_M_collect 55 = .ok (.goto 56, 3) := by decide +kernel
theorem d_M_collect_58 : decode b_M_collect 58 = .ok (.iload_n 1, 1) := by decide +kernel
theorem d_M_collect_59 : decode b_M_collect 59 = .ok (.iconst 1, 1) := by decide +kernel
theorem d_M_collect_60 : decode b_M_collect 60 = .ok (.if_icmp .ne 35, 3) := by decide +kernel
theorem d_M_collect_63 : decode b_M_collect 63 = .ok (.iload_n 2, 1) := by decide +kernel
theorem d_M_collect_64 : decode b_M_collect 64 = .ok (.bipush 96, 2) := by decide +kernel
theorem d_M_collect_66 : decode b_M_collect 66 = .ok (.if_icmp .le 9, 3) := by decide +kernel
theorem d_M_collect_69 : decode b_M_collect 69 = .ok (.iload_n 2, 1) := by decide +kernel
theorem d_M_collect_70 : decode b_M_collect 70 = .ok (.bipush 123, 2) := by decide +kernel
theorem d_M_collect_72 : decode b_M_collect 72 = .ok (.if_icmp .lt 15, 3) := by decide +kernel
theorem d_M_collect_75 : decode b_M_collect 75 = .ok (.iload_n 2, 1) := by decide +kernel
theorem d_M_collect_76 : decode b_M_collect 76 = .ok (.bipush 46, 2) := by decide +kernel
theorem d_M_collect_78 : decode b_M_collect 78 = .ok (.if_icmp .eq 9, 3) := by decide +kernel
theorem d_M_collect_81 : decode b_M_collect 81 = .ok (.iload_n 2, 1) := by decide +kernel
theorem d_M_collect_82 : decode b_M_collect 82 = .ok (.bipush 47, 2) := by decide +kernel
theorem d_M_collect_84 : decode b_M_collect 84 = .ok (.if_icmp .ne 7, 3) := by decide +kernel
theorem d_M_collect_87 : decode b_M_collect 87 = .ok (.iconst 1, 1) := by decide +kernel
theorem d_M_collect_88 : decode b_M_collect 88 = .ok (.goto 23, 3) := by decide +kernel
theorem d_M_collect_91 : decode b_M_collect 91 = .ok (.iconst 0, 1) := by decide +kernel
theorem d_M_collect_92 : decode b_M_collect 92 = .ok (.goto 19, 3) := by decide +kernel
theorem d_M_collect_95 : decode b_M_collect 95 = .ok (.iload_n 2, 1) := by decide +kernel
theorem d_M_collect_96 : decode b_M_collect 96 = .ok (.ifCond .lt 14, 3) := by decide +kernel
theorem d_M_collect_99 : decode b_M_collect 99 = .ok (.iload_n 2, 1) := by decide +kernel
theorem d_M_collect_100 : decode b_M_collect 100 = .ok (.sipush 256, 3) := by decide +kernel
theorem d_M_collect_103 : decode b_M_collect 103 = .ok (.if_icmp .ge 7, 3) := by decide +kernel
theorem d_M_collect_106 : decode b_M_collect 106 = .ok (.iconst 1, 1) := by decide +kernel
theorem d_M_collect_107 : decode b_M_collect 107 = .ok (.goto 4, 3) := by decide +kernel
theorem d_M_collect_110 : decode b_M_collect 110 = .ok (.iconst 0, 1) := by decide +kernel
theorem d_M_collect_111 : decode b_M_collect 111 = .ok (.istore_n 3, 1) := by decide +kernel
theorem d_M_collect_112 : decode b_M_collect 112 = .ok (.iload_n 3, 1) := by decide +kernel
theorem d_M_collect_113 : decode b_M_collect 113 = .ok (.ifCond .ne 5, 3) := by decide +kernel
theorem d_M_collect_116 : decode b_M_collect 116 = .ok (.iconst (-1), 1) := by decide +kernel
theorem d_M_collect_117 : decode b_M_collect 117 = .ok (.ireturn, 1) := by decide +kernel
theorem d_M_collect_118 : decode b_M_collect 118 = .ok (.aload_n 0, 1) := by decide +kernel
theorem d_M_collect_119 : decode b_M_collect 119 = .ok (.getfield 41, 3) := by decide +kernel
theorem d_M_collect_122 : decode b_M_collect 122 = .ok (.bipush 30, 2) := by decide +kernel
theorem d_M_collect_124 : decode b_M_collect 124 = .ok (.iload_n 1, 1) := by decide +kernel
theorem d_M_collect_125 : decode b_M_collect 125 = .ok (.imul, 1) := by decide +kernel
theorem d_M_collect_126 : decode b_M_collect 126 = .ok (.aload_n 0, 1) := by decide +kernel
theorem d_M_collect_127 : decode b_M_collect 127 = .ok (.getfield 38, 3) := by decide +kernel
theorem d_M_collect_130 : decode b_M_collect 130 = .ok (.iload_n 1, 1) := by decide +kernel
theorem d_M_collect_131 : decode b_M_collect 131 = .ok (.iaload, 1) := by decide +kernel
theorem d_M_collect_132 : decode b_M_collect 132 = .ok (.iadd, 1) := by decide +kernel
theorem d_M_collect_133 : decode b_M_collect 133 = .ok (.iload_n 2, 1) := by decide +kernel
theorem d_M_collect_134 : decode b_M_collect 134 = .ok (.iastore, 1) := by decide +kernel
theorem d_M_collect_135 : decode b_M_collect 135 = .ok (.aload_n 0, 1) := by decide +kernel
theorem d_M_collect_136 : decode b_M_collect 136 = .ok (.getfield 38, 3) := by decide +kernel
theorem d_M_collect_139 : decode b_M_collect 139 = .ok (.iload_n 1, 1) := by decide +kernel
theorem d_M_collect_140 : decode b_M_collect 140 = .ok (.dup2, 1) := by decide +kernel
theorem d_M_collect_141 : decode b_M_collect 141 = .ok (.iaload, 1) := by decide +kernel
theorem d_M_collect_142 : decode b_M_collect 142 = .ok (.iconst 1, 1) := by decide +kernel
theorem d_M_collect_143 : decode b_M_collect 143 = .ok (.iadd, 1) := by decide +kernel
theorem d_M_collect_144 : decode b_M_collect 144 = .ok (.iastore, 1) := by decide +kernel
theorem d_M_collect_145 : decode b_M_collect 145 = .ok (.aload_n 0, 1) := by decide +kernel
theorem d_M_collect_146 : decode b_M_collect 146 = .ok (.getfield 38, 3) := by decide +kernel
theorem d_M_collect_149 : decode b_M_collect 149 = .ok (.iload_n 1, 1) := by decide +kernel
theorem d_M_collect_150 : decode b_M_collect 150 = .ok (.iaload, 1) := by decide +kernel
theorem d_M_collect_151 : decode b_M_collect 151 = .ok (.ireturn, 1) := by decide +kernel
theorem d_M_collected_0 : decode b_M_collected 0 = .ok (.aload_n 0, 1) := by decide +kernel
theorem d_M_collected_1 : decode b_M_collected 1 = .ok (.iconst 0, 1) := by decide +kernel
theorem d_M_collected_2 : decode b_M_collected 2 = .ok (.putfield 90, 3) := by decide +kernel
theorem d_M_collected_5 : decode b_M_collected 5 = .ok (.iload_n 1, 1) := by decide +kernel
theorem d_M_collected_6 : decode b_M_collected 6 = .ok (.invokestatic 105, 3) := by decide +kernel
theorem d_M_collected_9 : decode b_M_collected 9 = .ok (.ifCond .eq 12, 3) := by decide +kernel
theorem d_M_collected_12 : decode b_M_collected 12 = .ok (.aload_n 0, 1) := by decide +kernel
theorem d_M_collected_13 : decode b_M_collected 13 = .ok (.getfield 38, 3) := by decide +kernel
theorem d_M_collected_16 : decode b_M_collected 16 = .ok (.iload_n 1, 1) := by decide +kernel
theorem d_M_collected_17 : decode b_M_collected 17 = .ok (.iaload, 1) := by decide +kernel
theorem d_M_collected_18 : decode b_M_collected 18 = .ok (.goto 4, 3) := by decide +kernel
theorem d_M_collected_21 : decode b_M_collected 21 = .ok (.iconst (-1), 1) := by decide +kernel
theorem d_M_collected_22 : decode b_M_collected 22 = .ok (.ireturn, 1) := by decide +kernel
theorem d_M_sumOf_0 : decode b_M_sumOf 0 = .ok (.lconst 0, 1) := by decide +kernel
theorem d_M_sumOf_1 : decode b_M_sumOf 1 = .ok (.lstore_n 2, 1) := by decide +kernel
theorem d_M_sumOf_2 : decode b_M_sumOf 2 = .ok (.bipush 30, 2) := by decide +kernel
theorem d_M_sumOf_4 : decode b_M_sumOf 4 = .ok (.iload_n 1, 1) := by decide +kernel
theorem d_M_sumOf_5 : decode b_M_sumOf 5 = .ok (.imul, 1) := by decide +kernel
theorem d_M_sumOf_6 : decode b_M_sumOf 6 = .ok (.istore 4, 2) := by decide +kernel
theorem d_M_sumOf_8 : decode b_M_sumOf 8 = .ok (.iload 4, 2) := by decide +kernel
theorem d_M_sumOf_10 : decode b_M_sumOf 10 = .ok (.bipush 30, 2) := by decide +kernel
theorem d_M_sumOf_12 : decode b_M_sumOf 12 = .ok (.iload_n 1, 1) := by decide +kernel
theorem d_M_sumOf_13 : decode b_M_sumOf 13 = .ok (.imul, 1) := by decide +kernel
theorem d_M_sumOf_14 : decode b_M_sumOf 14 = .ok (.aload_n 0, 1) := by decide +kernel
theorem d_M_sumOf_15 : decode b_M_sumOf 15 = .ok (.getfield 38, 3) := by decide +kernel
theorem d_M_sumOf_18 : decode b_M_sumOf 18 = .ok (.iload_n 1, 1) := by decide +kernel
theorem d_M_sumOf_19 : decode b_M_sumOf 19 = .ok (.iaload, 1) := by decide +kernel
theorem d_M_sumOf_20 : decode b_M_sumOf 20 = .ok (.iadd, 1) := by decide +kernel
theorem d_M_sumOf_21 : decode b_M_sumOf 21 = .ok (.if_icmp .ge 26, 3) := by decide +kernel
theorem d_M_sumOf_24 : decode b_M_sumOf 24 = .ok (.ldc2_w 108, 3) := by decide +kernel
theorem d_M_sumOf_27 : decode b_M_sumOf 27 = .ok (.lload_n 2, 1) := by decide +kernel
theorem d_M_sumOf_28 : decode b_M_sumOf 28 = .ok (.lmul, 1) := by decide +kernel
theorem d_M_sumOf_29 : decode b_M_sumOf 29 = .ok (.aload_n 0, 1) := by decide +kernel
theorem d_M_sumOf_30 : decode b_M_sumOf 30 = .ok (.getfield 41, 3) := by decide +kernel
theorem d_M_sumOf_33 : decode b_M_sumOf 33 = .ok (.iload 4, 2) := by decide +kernel
theorem d_M_sumOf_35 : decode b_M_sumOf 35 = .ok (.iaload, 1) := by decide +kernel
theorem d_M_sumOf_36 : decode b_M_sumOf 36 = .ok (.i2l, 1) := by decide +kernel
theorem d_M_sumOf_37 : decode b_M_sumOf 37 = .ok (.ladd, 1) := by decide +kernel
theorem d_M_sumOf_38 : decode b_M_sumOf 38 = .ok (.lconst 1, 1) := by decide +kernel
theorem d_M_sumOf_39 : decode b_M_sumOf 39 = .ok (.ladd, 1) := by decide +kernel
theorem d_M_sumOf_40 : decode b_M_sumOf 40 = .ok (.lstore_n 2, 1) := by decide +kernel
theorem d_M_sumOf_41 : decode b_M_sumOf 41 = .ok (.iinc 4 1, 3) := by decide +kernel
theorem d_M_sumOf_44 : decode b_M_sumOf 44 = .ok (.goto (-36), 3) := by decide +kernel
theorem d_M_sumOf_47 : decode b_M_sumOf 47 = .ok (.lload_n 2, 1) := by decide +kernel
theorem d_M_sumOf_48 : decode b_M_sumOf 48 = .ok (.lreturn, 1) := by decide +kernel
theorem d_M_define_0 : decode b_M_define 0 = .ok (.aload_n 0, 1) := by decide +kernel
theorem d_M_define_1 : decode b_M_define 1 = .ok (.iconst 0, 1) := by decide +kernel
theorem d_M_define_2 : decode b_M_define 2 = .ok (.putfield 90, 3) := by decide +kernel
theorem d_M_define_5 : decode b_M_define 5 = .ok (.iload_n 1, 1) := by decide +kernel
theorem d_M_define_6 : decode b_M_define 6 = .ok (.ifCond .lt 39, 3) := by decide +kernel
theorem d_M_define_9 : decode b_M_define 9 = .ok (.iload_n 1, 1) := by decide +kernel
theorem d_M_define_10 : decode b_M_define 10 = .ok (.bipush 12, 2) := by decide +kernel
theorem d_M_define_12 : decode b_M_define 12 = .ok (.if_icmp .ge 33, 3) := by decide +kernel
theorem d_M_define_15 : decode b_M_define 15 = .ok (.iload_n 2, 1) := by decide +kernel
theorem d_M_define_16 : decode b_M_define 16 = .ok (.ifCond .lt 29, 3) := by decide +kernel
theorem d_M_define_19 : decode b_M_define 19 = .ok (.iload_n 2, 1) := by decide +kernel
theorem d_M_define_20 : decode b_M_define 20 = .ok (.bipush 8, 2) := by decide +kernel
theorem d_M_define_22 : decode b_M_define 22 = .ok (.if_icmp .gt 23, 3) := by decide +kernel
theorem d_M_define_25 : decode b_M_define 25 = .ok (.iload_n 3, 1) := by decide +kernel
theorem d_M_define_26 : decode b_M_define 26 = .ok (.iconst (-1), 1) := by decide +kernel
theorem d_M_define_27 : decode b_M_define 27 = .ok (.if_icmp .eq 10, 3) := by decide +kernel
theorem d_M_define_30 : decode b_M_define 30 = .ok (.iload_n 3, 1) := by decide +kernel
theorem d_M_define_31 : decode b_M_define 31 = .ok (.invokestatic 105, 3) := by decide +kernel
theorem d_M_define_34 : decode b_M_define 34 = .ok (.ifCond .eq 11, 3) := by decide +kernel
theorem d_M_define_37 : decode b_M_define 37 = .ok (.lload 4, 2) := by decide +kernel
theorem d_M_define_39 : decode b_M_define 39 = .ok (.lload 6, 2) := by decide +kernel
theorem d_M_define_41 : decode b_M_define 41 = .ok (.lcmp, 1) := by decide +kernel
theorem d_M_define_42 : decode b_M_define 42 = .ok (.ifCond .le 5, 3) := by decide +kernel
theorem d_M_define_45 : decode b_M_define 45 = .ok (.iconst 0, 1) := by decide +kernel
theorem d_M_define_46 : decode b_M_define 46 = .ok (.ireturn, 1) := by decide +kernel
theorem d_M_define_47 : decode b_M_define 47 = .ok (.aload_n 0, 1) := by decide +kernel
theorem d_M_define_48 : decode b_M_define 48 = .ok (.getfield 44, 3) := by decide +kernel
theorem d_M_define_51 : decode b_M_define 51 = .ok (.iload_n 1, 1) := by decide +kernel
theorem d_M_define_52 : decode b_M_define 52 = .ok (.iconst 1, 1) := by decide +kernel
theorem d_M_define_53 : decode b_M_define 53 = .ok (.bastore, 1) := by decide +kernel
theorem d_M_define_54 : decode b_M_define 54 = .ok (.aload_n 0, 1) := by decide +kernel
theorem d_M_define_55 : decode b_M_define 55 = .ok (.getfield 48, 3) := by decide +kernel
theorem d_M_define_58 : decode b_M_define 58 = .ok (.iload_n 1, 1) := by decide +kernel
theorem d_M_define_59 : decode b_M_define 59 = .ok (.iload_n 2, 1) := by decide +kernel
theorem d_M_define_60 : decode b_M_define 60 = .ok (.iastore, 1) := by decide +kernel
theorem d_M_define_61 : decode b_M_define 61 = .ok (.aload_n 0, 1) := by decide +kernel
theorem d_M_define_62 : decode b_M_define 62 = .ok (.getfield 51, 3) := by decide +kernel
theorem d_M_define_65 : decode b_M_define 65 = .ok (.iload_n 1, 1) := by decide +kernel
theorem d_M_define_66 : decode b_M_define 66 = .ok (.iload_n 3, 1) := by decide +kernel
theorem d_M_define_67 : decode b_M_define 67 = .ok (.iastore, 1) := by decide +kernel
theorem d_M_define_68 : decode b_M_define 68 = .ok (.aload_n 0, 1) := by decide +kernel
theorem d_M_define_69 : decode b_M_define 69 = .ok (.getfield 66, 3) := by decide +kernel
theorem d_M_define_72 : decode b_M_define 72 = .ok (.iload_n 1, 1) := by decide +kernel
theorem d_M_define_73 : decode b_M_define 73 = .ok (.lload 4, 2) := by decide +kernel
theorem d_M_define_75 : decode b_M_define 75 = .ok (.lastore, 1) := by decide +kernel
theorem d_M_define_76 : decode b_M_define 76 = .ok (.aload_n 0, 1) := by decide +kernel
theorem d_M_define_77 : decode b_M_define 77 = .ok (.getfield 69, 3) := by decide +kernel
theorem d_M_define_80 : decode b_M_define 80 = .ok (.iload_n 1, 1) := by decide +kernel
theorem d_M_define_81 : decode b_M_define 81 = .ok (.lload 6, 2) := by decide +kernel
theorem d_M_define_83 : decode b_M_define 83 = .ok (.lastore, 1) := by decide +kernel
theorem d_M_define_84 : decode b_M_define 84 = .ok (.aload_n 0, 1) := by decide +kernel
theorem d_M_define_85 : decode b_M_define 85 = .ok (.getfield 54, 3) := by decide +kernel
theorem d_M_define_88 : decode b_M_define 88 = .ok (.iload_n 1, 1) := by decide +kernel
theorem d_M_define_89 : decode b_M_define 89 = .ok (.iconst 0, 1) := by decide +kernel
theorem d_M_define_90 : decode b_M_define 90 = .ok (.iastore, 1) := by decide +kernel
theorem d_M_define_91 : decode b_M_define 91 = .ok (.aload_n 0, 1) := by decide +kernel
theorem d_M_define_92 : decode b_M_define 92 = .ok (.getfield 57, 3) := by decide +kernel
theorem d_M_define_95 : decode b_M_define 95 = .ok (.iload_n 1, 1) := by decide +kernel
theorem d_M_define_96 : decode b_M_define 96 = .ok (.iconst 0, 1) := by decide +kernel
theorem d_M_define_97 : decode b_M_define 97 = .ok (.iastore, 1) := by decide +kernel
theorem d_M_define_98 : decode b_M_define 98 = .ok (.aload_n 0, 1) := by decide +kernel
theorem d_M_define_99 : decode b_M_define 99 = .ok (.getfield 63, 3) := by decide +kernel
theorem d_M_define_102 : decode b_M_define 102 = .ok (.iload_n 1, 1) := by decide +kernel
theorem d_M_define_103 : decode b_M_define 103 = .ok (.iconst 0, 1) := by decide +kernel
theorem d_M_define_104 : decode b_M_define 104 = .ok (.iastore, 1) := by decide +kernel
theorem d_M_define_105 : decode b_M_define 105 = .ok (.iconst 1, 1) := by decide +kernel
theorem d_M_define_106 : decode b_M_define 106 = .ok (.ireturn, 1) := by decide +kernel
theorem d_M_answer_0 : decode b_M_answer 0 = .ok (.aload_n 0, 1) := by decide +kernel
theorem d_M_answer_1 : decode b_M_answer 1 = .ok (.iconst 0, 1) := by decide +kernel
theorem d_M_answer_2 : decode b_M_answer 2 = .ok (.putfield 90, 3) := by decide +kernel
theorem d_M_answer_5 : decode b_M_answer 5 = .ok (.aload_n 0, 1) := by decide +kernel
theorem d_M_answer_6 : decode b_M_answer 6 = .ok (.iload_n 1, 1) := by decide +kernel
theorem d_M_answer_7 : decode b_M_answer 7 = .ok (.invokevirtual 110, 3) := by decide +kernel
theorem d_M_answer_10 : decode b_M_answer 10 = .ok (.ifCond .eq 13, 3) := by decide +kernel
theorem d_M_answer_13 : decode b_M_answer 13 = .ok (.aload_n 0, 1) := by decide +kernel
theorem d_M_answer_14 : decode b_M_answer 14 = .ok (.getfield 54, 3) := by decide +kernel
theorem d_M_answer_17 : decode b_M_answer 17 = .ok (.iload_n 1, 1) := by decide +kernel
theorem d_M_answer_18 : decode b_M_answer 18 = .ok (.iaload, 1) := by decide +kernel
theorem d_M_answer_19 : decode b_M_answer 19 = .ok (.iconst 5, 1) := by decide +kernel
theorem d_M_answer_20 : decode b_M_answer 20 = .ok (.if_icmp .ne 5, 3) := by decide +kernel
theorem d_M_answer_23 : decode b_M_answer 23 = .ok (.iconst (-1), 1) := by decide +kernel
theorem d_M_answer_24 : decode b_M_answer 24 = .ok (.ireturn, 1) := by decide +kernel
theorem d_M_answer_25 : decode b_M_answer 25 = .ok (.aload_n 0, 1) := by decide +kernel
theorem d_M_answer_26 : decode b_M_answer 26 = .ok (.getfield 72, 3) := by decide +kernel
theorem d_M_answer_29 : decode b_M_answer 29 = .ok (.iconst 5, 1) := by decide +kernel
theorem d_M_answer_30 : decode b_M_answer 30 = .ok (.iload_n 1, 1) := by decide +kernel
theorem d_M_answer_31 : decode b_M_answer 31 = .ok (.imul, 1) := by decide +kernel
theorem d_M_answer_32 : decode b_M_answer 32 = .ok (.aload_n 0, 1) := by decide +kernel
theorem d_M_answer_33 : decode b_M_answer 33 = .ok (.getfield 54, 3) := by decide +kernel
theorem d_M_answer_36 : decode b_M_answer 36 = .ok (.iload_n 1, 1) := by decide +kernel
theorem d_M_answer_37 : decode b_M_answer 37 = .ok (.iaload, 1) := by decide +kernel
theorem d_M_answer_38 : decode b_M_answer 38 = .ok (.iadd, 1) := by decide +kernel
theorem d_M_answer_39 : decode b_M_answer 39 = .ok (.lload_n 2, 1) := by decide +kernel
theorem d_M_answer_40 : decode b_M_answer 40 = .ok (.lastore, 1) := by decide +kernel
theorem d_M_answer_41 : decode b_M_answer 41 = .ok (.aload_n 0, 1) := by decide +kernel
theorem d_M_answer_42 : decode b_M_answer 42 = .ok (.getfield 54, 3) := by decide +kernel
theorem d_M_answer_45 : decode b_M_answer 45 = .ok (.iload_n 1, 1) := by decide +kernel
theorem d_M_answer_46 : decode b_M_answer 46 = .ok (.dup2, 1) := by decide +kernel
theorem d_M_answer_47 : decode b_M_answer 47 = .ok (.iaload, 1) := by decide +kernel
theorem d_M_answer_48 : decode b_M_answer 48 = .ok (.iconst 1, 1) := by decide +kernel
theorem d_M_answer_49 : decode b_M_answer 49 = .ok (.iadd, 1) := by decide +kernel
theorem d_M_answer_50 : decode b_M_answer 50 = .ok (.iastore, 1) := by decide +kernel
theorem d_M_answer_51 : decode b_M_answer 51 = .ok (.aload_n 0, 1) := by decide +kernel
theorem d_M_answer_52 : decode b_M_answer 52 = .ok (.getfield 54, 3) := by decide +kernel
theorem d_M_answer_55 : decode b_M_answer 55 = .ok (.iload_n 1, 1) := by decide +kernel
theorem d_M_answer_56 : decode b_M_answer 56 = .ok (.iaload, 1) := by decide +kernel
theorem d_M_answer_57 : decode b_M_answer 57 = .ok (.ireturn, 1) := by decide +kernel
theorem d_M_fails_0 : decode b_M_fails 0 = .ok (.aload_n 0, 1) := by decide +kernel
theorem d_M_fails_1 : decode b_M_fails 1 = .ok (.iconst 0, 1) := by decide +kernel
theorem d_M_fails_2 : decode b_M_fails 2 = .ok (.putfield 90, 3) := by decide +kernel
theorem d_M_fails_5 : decode b_M_fails 5 = .ok (.aload_n 0, 1) := by decide +kernel
theorem d_M_fails_6 : decode b_M_fails 6 = .ok (.iload_n 1, 1) := by decide +kernel
theorem d_M_fails_7 : decode b_M_fails 7 = .ok (.invokevirtual 110, 3) := by decide +kernel
theorem d_M_fails_10 : decode b_M_fails 10 = .ok (.ifCond .eq 23, 3) := by decide +kernel
theorem d_M_fails_13 : decode b_M_fails 13 = .ok (.iload_n 2, 1) := by decide +kernel
theorem d_M_fails_14 : decode b_M_fails 14 = .ok (.iconst 1, 1) := by decide +kernel
theorem d_M_fails_15 : decode b_M_fails 15 = .ok (.if_icmp .lt 18, 3) := by decide +kernel
theorem d_M_fails_18 : decode b_M_fails 18 = .ok (.iload_n 2, 1) := by decide +kernel
theorem d_M_fails_19 : decode b_M_fails 19 = .ok (.iconst 3, 1) := by decide +kernel
theorem d_M_fails_20 : decode b_M_fails 20 = .ok (.if_icmp .gt 13, 3) := by decide +kernel
theorem d_M_fails_23 : decode b_M_fails 23 = .ok (.iload_n 3, 1) := by decide +kernel
theorem d_M_fails_24 : decode b_M_fails 24 = .ok (.ifCond .lt 9, 3) := by decide +kernel
theorem d_M_fails_27 : decode b_M_fails 27 = .ok (.iload_n 3, 1) := by decide +kernel
theorem d_M_fails_28 : decode b_M_fails 28 = .ok (.bipush 9, 2) := by decide +kernel
theorem d_M_fails_30 : decode b_M_fails 30 = .ok (.if_icmp .le 5, 3) := by decide +kernel
theorem d_M_fails_33 : decode b_M_fails 33 = .ok (.iconst 0, 1) := by decide +kernel
theorem d_M_fails_34 : decode b_M_fails 34 = .ok (.ireturn, 1) := by decide +kernel
theorem d_M_fails_35 : decode b_M_fails 35 = .ok (.aload_n 0, 1) := by decide +kernel
theorem d_M_fails_36 : decode b_M_fails 36 = .ok (.getfield 60, 3) := by decide +kernel
theorem d_M_fails_39 : decode b_M_fails 39 = .ok (.iload_n 1, 1) := by decide +kernel
theorem d_M_fails_40 : decode b_M_fails 40 = .ok (.iload_n 2, 1) := by decide +kernel
theorem d_M_fails_41 : decode b_M_fails 41 = .ok (.iastore, 1) := by decide +kernel
theorem d_M_fails_42 : decode b_M_fails 42 = .ok (.aload_n 0, 1) := by decide +kernel
theorem d_M_fails_43 : decode b_M_fails 43 = .ok (.getfield 63, 3) := by decide +kernel
theorem d_M_fails_46 : decode b_M_fails 46 = .ok (.iload_n 1, 1) := by decide +kernel
theorem d_M_fails_47 : decode b_M_fails 47 = .ok (.iload_n 3, 1) := by decide +kernel
theorem d_M_fails_48 : decode b_M_fails 48 = .ok (.iastore, 1) := by decide +kernel
theorem d_M_fails_49 : decode b_M_fails 49 = .ok (.iconst 1, 1) := by decide +kernel
theorem d_M_fails_50 : decode b_M_fails 50 = .ok (.ireturn, 1) := by decide +kernel
theorem d_M_go_0 : decode b_M_go 0 = .ok (.aload_n 0, 1) := by decide +kernel
theorem d_M_go_1 : decode b_M_go 1 = .ok (.iconst 0, 1) := by decide +kernel
theorem d_M_go_2 : decode b_M_go 2 = .ok (.putfield 113, 3) := by decide +kernel
theorem d_M_go_5 : decode b_M_go 5 = .ok (.aload_n 0, 1) := by decide +kernel
theorem d_M_go_6 : decode b_M_go 6 = .ok (.lconst 0, 1) := by decide +kernel
theorem d_M_go_7 : decode b_M_go 7 = .ok (.putfield 116, 3) := by decide +kernel
theorem d_M_go_10 : decode b_M_go 10 = .ok (.aload_n 0, 1) := by decide +kernel
theorem d_M_go_11 : decode b_M_go 11 = .ok (.getfield 63, 3) := by decide +kernel
theorem d_M_go_14 : decode b_M_go 14 = .ok (.iload_n 1, 1) := by decide +kernel
theorem d_M_go_15 : decode b_M_go 15 = .ok (.iaload, 1) := by decide +kernel
theorem d_M_go_16 : decode b_M_go 16 = .ok (.ifCond .le 26, 3) := by decide +kernel
theorem d_M_go_19 : decode b_M_go 19 = .ok (.aload_n 0, 1) := by decide +kernel
theorem d_M_go_20 : decode b_M_go 20 = .ok (.getfield 63, 3) := by decide +kernel
theorem d_M_go_23 : decode b_M_go 23 = .ok (.iload_n 1, 1) := by decide +kernel
theorem d_M_go_24 : decode b_M_go 24 = .ok (.dup2, 1) := by decide +kernel
theorem d_M_go_25 : decode b_M_go 25 = .ok (.iaload, 1) := by decide +kernel
theorem d_M_go_26 : decode b_M_go 26 = .ok (.iconst 1, 1) := by decide +kernel
theorem d_M_go_27 : decode b_M_go 27 = .ok (.isub, 1) := by decide +kernel
theorem d_M_go_28 : decode b_M_go 28 = .ok (.iastore, 1) := by decide +kernel
theorem d_M_go_29 : decode b_M_go 29 = .ok (.aload_n 0, 1) := by decide +kernel
theorem d_M_go_30 : decode b_M_go 30 = .ok (.aload_n 0, 1) := by decide +kernel
theorem d_M_go_31 : decode b_M_go 31 = .ok (.getfield 60, 3) := by decide +kernel
theorem d_M_go_34 : decode b_M_go 34 = .ok (.iload_n 1, 1) := by decide +kernel
theorem d_M_go_35 : decode b_M_go 35 = .ok (.iaload, 1) := by decide +kernel
theorem d_M_go_36 : decode b_M_go 36 = .ok (.putfield 113, 3) := by decide +kernel
theorem d_M_go_39 : decode b_M_go 39 = .ok (.goto 76, 3) := by decide +kernel
theorem d_M_go_42 : decode b_M_go 42 = .ok (.aload_n 0, 1) := by decide +kernel
theorem d_M_go_43 : decode b_M_go 43 = .ok (.getfield 54, 3) := by decide +kernel
theorem d_M_go_46 : decode b_M_go 46 = .ok (.iload_n 1, 1) := by decide +kernel
theorem d_M_go_47 : decode b_M_go 47 = .ok (.iaload, 1) := by decide +kernel
theorem d_M_go_48 : decode b_M_go 48 = .ok (.ifCond .ne 11, 3) := by decide +kernel
theorem d_M_go_51 : decode b_M_go 51 = .ok (.aload_n 0, 1) := by decide +kernel
theorem d_M_go_52 : decode b_M_go 52 = .ok (.lload_n 2, 1) := by decide +kernel
theorem d_M_go_53 : decode b_M_go 53 = .ok (.putfield 116, 3) := by decide +kernel
theorem d_M_go_56 : decode b_M_go 56 = .ok (.goto 59, 3) := by decide +kernel
theorem d_M_go_59 : decode b_M_go 59 = .ok (.aload_n 0, 1) := by decide +kernel
theorem d_M_go_60 : decode b_M_go 60 = .ok (.lload_n 2, 1) := by decide +kernel
theorem d_M_go_61 : decode b_M_go 61 = .ok (.aload_n 0, 1) := by decide +kernel
theorem d_M_go_62 : decode b_M_go 62 = .ok (.getfield 72, 3) := by decide +kernel
theorem d_M_go_65 : decode b_M_go 65 = .ok (.iconst 5, 1) := by decide +kernel
theorem d_M_go_66 : decode b_M_go 66 = .ok (.iload_n 1, 1) := by decide +kernel
theorem d_M_go_67 : decode b_M_go 67 = .ok (.imul, 1) := by decide +kernel
theorem d_M_go_68 : decode b_M_go 68 = .ok (.aload_n 0, 1) := by decide +kernel
theorem d_M_go_69 : decode b_M_go 69 = .ok (.getfield 57, 3) := by decide +kernel
theorem d_M_go_72 : decode b_M_go 72 = .ok (.iload_n 1, 1) := by decide +kernel
theorem d_M_go_73 : decode b_M_go 73 = .ok (.iaload, 1) := by decide +kernel
theorem d_M_go_74 : decode b_M_go 74 = .ok (.iadd, 1) := by decide +kernel
theorem d_M_go_75 : decode b_M_go 75 = .ok (.laload, 1) := by decide +kernel
theorem d_M_go_76 : decode b_M_go 76 = .ok (.ladd, 1) := by decide +kernel
theorem d_M_go_77 : decode b_M_go 77 = .ok (.putfield 116, 3) := by decide +kernel
theorem d_M_go_80 : decode b_M_go 80 = .ok (.aload_n 0, 1) := by decide +kernel
theorem d_M_go_81 : decode b_M_go 81 = .ok (.getfield 57, 3) := by decide +kernel
theorem d_M_go_84 : decode b_M_go 84 = .ok (.iload_n 1, 1) := by decide +kernel
theorem d_M_go_85 : decode b_M_go 85 = .ok (.aload_n 0, 1) := by decide +kernel
theorem d_M_go_86 : decode b_M_go 86 = .ok (.getfield 57, 3) := by decide +kernel
theorem d_M_go_89 : decode b_M_go 89 = .ok (.iload_n 1, 1) := by decide +kernel
theorem d_M_go_90 : decode b_M_go 90 = .ok (.iaload, 1) := by decide +kernel
theorem d_M_go_91 : decode b_M_go 91 = .ok (.iconst 1, 1) := by decide +kernel
theorem d_M_go_92 : decode b_M_go 92 = .ok (.iadd, 1) := by decide +kernel
theorem d_M_go_93 : decode b_M_go 93 = .ok (.aload_n 0, 1) := by decide +kernel
theorem d_M_go_94 : decode b_M_go 94 = .ok (.getfield 54, 3) := by decide +kernel
theorem d_M_go_97 : decode b_M_go 97 = .ok (.iload_n 1, 1) := by decide +kernel
theorem d_M_go_98 : decode b_M_go 98 = .ok (.iaload, 1) := by decide +kernel
theorem d_M_go_99 : decode b_M_go 99 = .ok (.if_icmp .ne 7, 3) := by decide +kernel
theorem d_M_go_102 : decode b_M_go 102 = .ok (.iconst 0, 1) := by decide +kernel
theorem d_M_go_103 : decode b_M_go 103 = .ok (.goto 11, 3) := by decide +kernel
theorem d_M_go_106 : decode b_M_go 106 = .ok (.aload_n 0, 1) := by decide +kernel
theorem d_M_go_107 : decode b_M_go 107 = .ok (.getfield 57, 3) := by decide +kernel
theorem d_M_go_110 : decode b_M_go 110 = .ok (.iload_n 1, 1) := by decide +kernel
theorem d_M_go_111 : decode b_M_go 111 = .ok (.iaload, 1) := by decide +kernel
theorem d_M_go_112 : decode b_M_go 112 = .ok (.iconst 1, 1) := by decide +kernel
theorem d_M_go_113 : decode b_M_go 113 = .ok (.iadd, 1) := by decide +kernel
theorem d_M_go_114 : decode b_M_go 114 = .ok (.iastore, 1) := by decide +kernel
theorem d_M_go_115 : decode b_M_go 115 = .ok (.return_, 1) := by decide +kernel
theorem d_M_tell_0 : decode b_M_tell 0 = .ok (.aload_n 0, 1) := by decide +kernel
theorem d_M_tell_1 : decode b_M_tell 1 = .ok (.getfield 84, 3) := by decide +kernel
theorem d_M_tell_4 : decode b_M_tell 4 = .ok (.iconst 0, 1) := by decide +kernel
theorem d_M_tell_5 : decode b_M_tell 5 = .ok (.iaload, 1) := by decide +kernel
theorem d_M_tell_6 : decode b_M_tell 6 = .ok (.bipush 40, 2) := by decide +kernel
theorem d_M_tell_8 : decode b_M_tell 8 = .ok (.irem, 1) := by decide +kernel
theorem d_M_tell_9 : decode b_M_tell 9 = .ok (.istore 6, 2) := by decide +kernel
theorem d_M_tell_11 : decode b_M_tell 11 = .ok (.aload_n 0, 1) := by decide +kernel
theorem d_M_tell_12 : decode b_M_tell 12 = .ok (.getfield 75, 3) := by decide +kernel
theorem d_M_tell_15 : decode b_M_tell 15 = .ok (.iload 6, 2) := by decide +kernel
theorem d_M_tell_17 : decode b_M_tell 17 = .ok (.iload_n 1, 1) := by decide +kernel
theorem d_M_tell_18 : decode b_M_tell 18 = .ok (.iastore, 1) := by decide +kernel
theorem d_M_tell_19 : decode b_M_tell 19 = .ok (.aload_n 0, 1) := by decide +kernel
theorem d_M_tell_20 : decode b_M_tell 20 = .ok (.getfield 78, 3) := by decide +kernel
theorem d_M_tell_23 : decode b_M_tell 23 = .ok (.iload 6, 2) := by decide +kernel
theorem d_M_tell_25 : decode b_M_tell 25 = .ok (.iload_n 2, 1) := by decide +kernel
theorem d_M_tell_26 : decode b_M_tell 26 = .ok (.iastore, 1) := by decide +kernel
theorem d_M_tell_27 : decode b_M_tell 27 = .ok (.aload_n 0, 1) := by decide +kernel
theorem d_M_tell_28 : decode b_M_tell 28 = .ok (.getfield 81, 3) := by decide +kernel
theorem d_M_tell_31 : decode b_M_tell 31 = .ok (.iload 6, 2) := by decide +kernel
theorem d_M_tell_33 : decode b_M_tell 33 = .ok (.iload_n 3, 1) := by decide +kernel
theorem d_M_tell_34 : decode b_M_tell 34 = .ok (.iastore, 1) := by decide +kernel
theorem d_M_tell_35 : decode b_M_tell 35 = .ok (.aload_n 0, 1) := by decide +kernel
theorem d_M_tell_36 : decode b_M_tell 36 = .ok (.getfield 87, 3) := by decide +kernel
theorem d_M_tell_39 : decode b_M_tell 39 = .ok (.iload 6, 2) := by decide +kernel
theorem d_M_tell_41 : decode b_M_tell 41 = .ok (.lload 4, 2) := by decide +kernel
theorem d_M_tell_43 : decode b_M_tell 43 = .ok (.lastore, 1) := by decide +kernel
theorem d_M_tell_44 : decode b_M_tell 44 = .ok (.aload_n 0, 1) := by decide +kernel
theorem d_M_tell_45 : decode b_M_tell 45 = .ok (.getfield 84, 3) := by decide +kernel
theorem d_M_tell_48 : decode b_M_tell 48 = .ok (.iconst 0, 1) := by decide +kernel
theorem d_M_tell_49 : decode b_M_tell 49 = .ok (.dup2, 1) := by decide +kernel
theorem d_M_tell_50 : decode b_M_tell 50 = .ok (.iaload, 1) := by decide +kernel
theorem d_M_tell_51 : decode b_M_tell 51 = .ok (.iconst 1, 1) := by decide +kernel
theorem d_M_tell_52 : decode b_M_tell 52 = .ok (.iadd, 1) := by decide +kernel
theorem d_M_tell_53 : decode b_M_tell 53 = .ok (.iastore, 1) := by decide +kernel
theorem d_M_tell_54 : decode b_M_tell 54 = .ok (.iload_n 1, 1) := by decide +kernel
theorem d_M_tell_55 : decode b_M_tell 55 = .ok (.ifCond .ne 7, 3) := by decide +kernel
theorem d_M_tell_58 : decode b_M_tell 58 = .ok (.iconst 1, 1) := by decide +kernel
theorem d_M_tell_59 : decode b_M_tell 59 = .ok (.goto 22, 3) := by decide +kernel
theorem d_M_tell_62 : decode b_M_tell 62 = .ok (.iload_n 1, 1) := by decide +kernel
theorem d_M_tell_63 : decode b_M_tell 63 = .ok (.iconst 4, 1) := by decide +kernel
theorem d_M_tell_64 : decode b_M_tell 64 = .ok (.if_icmp .ge 7, 3) := by decide +kernel
theorem d_M_tell_67 : decode b_M_tell 67 = .ok (.iconst 2, 1) := by decide +kernel
theorem d_M_tell_68 : decode b_M_tell 68 = .ok (.goto 13, 3) := by decide +kernel
theorem d_M_tell_71 : decode b_M_tell 71 = .ok (.iload_n 1, 1) := by decide +kernel
theorem d_M_tell_72 : decode b_M_tell 72 = .ok (.iconst 4, 1) := by decide +kernel
theorem d_M_tell_73 : decode b_M_tell 73 = .ok (.if_icmp .ne 7, 3) := by decide +kernel
theorem d_M_tell_76 : decode b_M_tell 76 = .ok (.iconst 3, 1) := by decide +kernel
theorem d_M_tell_77 : decode b_M_tell 77 = .ok (.goto 4, 3) := by decide +kernel
theorem d_M_tell_80 : decode b_M_tell 80 = .ok (.iconst 4, 1) := by decide +kernel
theorem d_M_tell_81 : decode b_M_tell 81 = .ok (.istore 7, 2) := by decide +kernel
theorem d_M_tell_83 : decode b_M_tell 83 = .ok (.aload_n 0, 1) := by decide +kernel
theorem d_M_tell_84 : decode b_M_tell 84 = .ok (.getfield 84, 3) := by decide +kernel
theorem d_M_tell_87 : decode b_M_tell 87 = .ok (.iload 7, 2) := by decide +kernel
theorem d_M_tell_89 : decode b_M_tell 89 = .ok (.dup2, 1) := by decide +kernel
theorem d_M_tell_90 : decode b_M_tell 90 = .ok (.iaload, 1) := by decide +kernel
theorem d_M_tell_91 : decode b_M_tell 91 = .ok (.iconst 1, 1) := by decide +kernel
theorem d_M_tell_92 : decode b_M_tell 92 = .ok (.iadd, 1) := by decide +kernel
theorem d_M_tell_93 : decode b_M_tell 93 = .ok (.iastore, 1) := by decide +kernel
theorem d_M_tell_94 : decode b_M_tell 94 = .ok (.return_, 1) := by decide +kernel
theorem d_M_refusal_0 : decode b_M_refusal 0 = .ok (.aload_n 0, 1) := by decide +kernel
theorem d_M_refusal_1 : decode b_M_refusal 1 = .ok (.iload_n 1, 1) := by decide +kernel
theorem d_M_refusal_2 : decode b_M_refusal 2 = .ok (.invokevirtual 110, 3) := by decide +kernel
theorem d_M_refusal_5 : decode b_M_refusal 5 = .ok (.ifCond .eq 26, 3) := by decide +kernel
theorem d_M_refusal_8 : decode b_M_refusal 8 = .ok (.aload_n 0, 1) := by decide +kernel
theorem d_M_refusal_9 : decode b_M_refusal 9 = .ok (.iload_n 2, 1) := by decide +kernel
theorem d_M_refusal_10 : decode b_M_refusal 10 = .ok (.invokevirtual 97, 3) := by decide +kernel
theorem d_M_refusal_13 : decode b_M_refusal 13 = .ok (.ifCond .eq 18, 3) := by decide +kernel
theorem d_M_refusal_16 : decode b_M_refusal 16 = .ok (.aload_n 0, 1) := by decide +kernel
theorem d_M_refusal_17 : decode b_M_refusal 17 = .ok (.getfield 7, 3) := by decide +kernel
theorem d_M_refusal_20 : decode b_M_refusal 20 = .ok (.iload_n 2, 1) := by decide +kernel
theorem d_M_refusal_21 : decode b_M_refusal 21 = .ok (.iaload, 1) := by decide +kernel
theorem d_M_refusal_22 : decode b_M_refusal 22 = .ok (.aload_n 0, 1) := by decide +kernel
theorem d_M_refusal_23 : decode b_M_refusal 23 = .ok (.getfield 48, 3) := by decide +kernel
theorem d_M_refusal_26 : decode b_M_refusal 26 = .ok (.iload_n 1, 1) := by decide +kernel
theorem d_M_refusal_27 : decode b_M_refusal 27 = .ok (.iaload, 1) := by decide +kernel
theorem d_M_refusal_28 : decode b_M_refusal 28 = .ok (.if_icmp .eq 5, 3) := by decide +kernel
theorem d_M_refusal_31 : decode b_M_refusal 31 = .ok (.iconst (-1), 1) := by decide +kernel
theorem d_M_refusal_32 : decode b_M_refusal 32 = .ok (.ireturn, 1) := by decide +kernel
theorem d_M_refusal_33 : decode b_M_refusal 33 = .ok (.lload_n 3, 1) := by decide +kernel
theorem d_M_refusal_34 : decode b_M_refusal 34 = .ok (.aload_n 0, 1) := by decide +kernel
theorem d_M_refusal_35 : decode b_M_refusal 35 = .ok (.getfield 66, 3) := by decide +kernel
theorem d_M_refusal_38 : decode b_M_refusal 38 = .ok (.iload_n 1, 1) := by decide +kernel
theorem d_M_refusal_39 : decode b_M_refusal 39 = .ok (.laload, 1) := by decide +kernel
theorem d_M_refusal_40 : decode b_M_refusal 40 = .ok (.lcmp, 1) := by decide +kernel
theorem d_M_refusal_41 : decode b_M_refusal 41 = .ok (.ifCond .lt 14, 3) := by decide +kernel
theorem d_M_refusal_44 : decode b_M_refusal 44 = .ok (.lload_n 3, 1) := by decide +kernel
theorem d_M_refusal_45 : decode b_M_refusal 45 = .ok (.aload_n 0, 1) := by decide +kernel
theorem d_M_refusal_46 : decode b_M_refusal 46 = .ok (.getfield 69, 3) := by decide +kernel
theorem d_M_refusal_49 : decode b_M_refusal 49 = .ok (.iload_n 1, 1) := by decide +kernel
theorem d_M_refusal_50 : decode b_M_refusal 50 = .ok (.laload, 1) := by decide +kernel
theorem d_M_refusal_51 : decode b_M_refusal 51 = .ok (.lcmp, 1) := by decide +kernel
theorem d_M_refusal_52 : decode b_M_refusal 52 = .ok (.ifCond .le 6, 3) := by decide +kernel
theorem d_M_refusal_55 : decode b_M_refusal 55 = .ok (.bipush (-2), 2) := by decide +kernel
theorem d_M_refusal_57 : decode b_M_refusal 57 = .ok (.ireturn, 1) := by decide +kernel
theorem d_M_refusal_58 : decode b_M_refusal 58 = .ok (.aload_n 0, 1) := by decide +kernel
theorem d_M_refusal_59 : decode b_M_refusal 59 = .ok (.getfield 51, 3) := by decide +kernel
theorem d_M_refusal_62 : decode b_M_refusal 62 = .ok (.iload_n 1, 1) := by decide +kernel
theorem d_M_refusal_63 : decode b_M_refusal 63 = .ok (.iaload, 1) := by decide +kernel
theorem d_M_refusal_64 : decode b_M_refusal 64 = .ok (.iconst (-1), 1) := by decide +kernel
theorem d_M_refusal_65 : decode b_M_refusal 65 = .ok (.if_icmp .ne 5, 3) := by decide +kernel
theorem d_M_refusal_68 : decode b_M_refusal 68 = .ok (.iconst 0, 1) := by decide +kernel
theorem d_M_refusal_69 : decode b_M_refusal 69 = .ok (.ireturn, 1) := by decide +kernel
theorem d_M_refusal_70 : decode b_M_refusal 70 = .ok (.aload_n 0, 1) := by decide +kernel
theorem d_M_refusal_71 : decode b_M_refusal 71 = .ok (.getfield 38, 3) := by decide +kernel
theorem d_M_refusal_74 : decode b_M_refusal 74 = .ok (.aload_n 0, 1) := by decide +kernel
theorem d_M_refusal_75 : decode b_M_refusal 75 = .ok (.getfield 51, 3) := by decide +kernel
theorem d_M_refusal_78 : decode b_M_refusal 78 = .ok (.iload_n 1, 1) := by decide +kernel
theorem d_M_refusal_79 : decode b_M_refusal 79 = .ok (.iaload, 1) := by decide +kernel
theorem d_M_refusal_80 : decode b_M_refusal 80 = .ok (.iaload, 1) := by decide +kernel
theorem d_M_refusal_81 : decode b_M_refusal 81 = .ok (.ifCond .ne 6, 3) := by decide +kernel
theorem d_M_refusal_84 : decode b_M_refusal 84 = .ok (.bipush (-3), 2) := by decide +kernel
theorem d_M_refusal_86 : decode b_M_refusal 86 = .ok (.ireturn, 1) := by decide +kernel
theorem d_M_refusal_87 : decode b_M_refusal 87 = .ok (.aload_n 0, 1) := by decide +kernel
theorem d_M_refusal_88 : decode b_M_refusal 88 = .ok (.getfield 16, 3) := by decide +kernel
theorem d_M_refusal_91 : decode b_M_refusal 91 = .ok (.iload_n 2, 1) := by decide +kernel
theorem d_M_refusal_92 : decode b_M_refusal 92 = .ok (.iaload, 1) := by decide +kernel
theorem d_M_refusal_93 : decode b_M_refusal 93 = .ok (.istore 5, 2) := by decide +kernel
theorem d_M_refusal_95 : decode b_M_refusal 95 = .ok (.aload_n 0, 1) := by decide +kernel
theorem d_M_refusal_96 : decode b_M_refusal 96 = .ok (.getfield 19, 3) := by decide +kernel
theorem d_M_refusal_99 : decode b_M_refusal 99 = .ok (.iload 5, 2) := by decide +kernel
theorem d_M_refusal_101 : decode b_M_refusal 101 = .ok (.iaload, 1) := by decide +kernel
theorem d_M_refusal_102 : decode b_M_refusal 102 = .ok (.ifCond .le 20, 3) := by decide +kernel
theorem d_M_refusal_105 : decode b_M_refusal 105 = .ok (.aload_n 0, 1) := by decide +kernel
theorem d_M_refusal_106 : decode b_M_refusal 106 = .ok (.getfield 25, 3) := by decide +kernel
theorem d_M_refusal_109 : decode b_M_refusal 109 = .ok (.iload 5, 2) := by decide +kernel
theorem d_M_refusal_111 : decode b_M_refusal 111 = .ok (.iaload, 1) := by decide +kernel
theorem d_M_refusal_112 : decode b_M_refusal 112 = .ok (.bipush 6, 2) := by decide +kernel
theorem d_M_refusal_114 : decode b_M_refusal 114 = .ok (.if_icmp .ne 8, 3) := by decide +kernel
theorem d_M_refusal_117 : decode b_M_refusal 117 = .ok (.bipush (-4), 2) := by decide +kernel
theorem d_M_refusal_119 : decode b_M_refusal 119 = .ok (.goto 4, 3) := by decide +kernel
theorem d_M_refusal_122 : decode b_M_refusal 122 = .ok (.iconst 0, 1) := by decide +kernel
theorem d_M_refusal_123 : decode b_M_refusal 123 = .ok (.ireturn, 1) := by decide +kernel
theorem d_M_call_0 : decode b_M_call 0 = .ok (.aload_n 0, 1) := by decide +kernel
theorem d_M_call_1 : decode b_M_call 1 = .ok (.iconst 0, 1) := by decide +kernel
theorem d_M_call_2 : decode b_M_call 2 = .ok (.putfield 90, 3) := by decide +kernel
theorem d_M_call_5 : decode b_M_call 5 = .ok (.aload_n 0, 1) := by decide +kernel
theorem d_M_call_6 : decode b_M_call 6 = .ok (.iload_n 1, 1) := by decide +kernel
theorem d_M_call_7 : decode b_M_call 7 = .ok (.iload_n 2, 1) := by decide +kernel
theorem d_M_call_8 : decode b_M_call 8 = .ok (.lload_n 3, 1) := by decide +kernel
theorem d_M_call_9 : decode b_M_call 9 = .ok (.invokevirtual 120, 3) := by decide +kernel
theorem d_M_call_12 : decode b_M_call 12 = .ok (.istore 5, 2) := by decide +kernel
theorem d_M_call_14 : decode b_M_call 14 = .ok (.iload 5, 2) := by decide +kernel
theorem d_M_call_16 : decode b_M_call 16 = .ok (.ifCond .eq 17, 3) := by decide +kernel
theorem d_M_call_19 : decode b_M_call 19 = .ok (.aload_n 0, 1) := by decide +kernel
theorem d_M_call_20 : decode b_M_call 20 = .ok (.iconst 4, 1) := by decide +kernel
theorem d_M_call_21 : decode b_M_call 21 = .ok (.iload_n 2, 1) := by decide +kernel
theorem d_M_call_22 : decode b_M_call 22 = .ok (.iload_n 1, 1) := by decide +kernel
theorem d_M_call_23 : decode b_M_call 23 = .ok (.iload 5, 2) := by decide +kernel
theorem d_M_call_25 : decode b_M_call 25 = .ok (.i2l, 1) := by decide +kernel
theorem d_M_call_26 : decode b_M_call 26 = .ok (.invokevirtual 124, 3) := by decide +kernel
theorem d_M_call_29 : decode b_M_call 29 = .ok (.iload 5, 2) := by decide +kernel
theorem d_M_call_31 : decode b_M_call 31 = .ok (.i2l, 1) := by decide +kernel
theorem d_M_call_32 : decode b_M_call 32 = .ok (.lreturn, 1) := by decide +kernel
theorem d_M_call_33 : decode b_M_call 33 = .ok (.aload_n 0, 1) := by decide +kernel
theorem d_M_call_34 : decode b_M_call 34 = .ok (.getfield 51, 3) := by decide +kernel
theorem d_M_call_37 : decode b_M_call 37 = .ok (.iload_n 1, 1) := by decide +kernel
theorem d_M_call_38 : decode b_M_call 38 = .ok (.iaload, 1) := by decide +kernel
theorem d_M_call_39 : decode b_M_call 39 = .ok (.iconst (-1), 1) := by decide +kernel
theorem d_M_call_40 : decode b_M_call 40 = .ok (.if_icmp .eq 7, 3) := by decide +kernel
theorem d_M_call_43 : decode b_M_call 43 = .ok (.iconst 1, 1) := by decide +kernel
theorem d_M_call_44 : decode b_M_call 44 = .ok (.goto 4, 3) := by decide +kernel
theorem d_M_call_47 : decode b_M_call 47 = .ok (.iconst 0, 1) := by decide +kernel
theorem d_M_call_48 : decode b_M_call 48 = .ok (.istore 6, 2) := by decide +kernel
theorem d_M_call_50 : decode b_M_call 50 = .ok (.iload 6, 2) := by decide +kernel
theorem d_M_call_52 : decode b_M_call 52 = .ok (.ifCond .eq 18, 3) := by decide +kernel
theorem d_M_call_55 : decode b_M_call 55 = .ok (.lload_n 3, 1) := by decide +kernel
theorem d_M_call_56 : decode b_M_call 56 = .ok (.aload_n 0, 1) := by decide +kernel
theorem d_M_call_57 : decode b_M_call 57 = .ok (.aload_n 0, 1) := by decide +kernel
theorem d_M_call_58 : decode b_M_call 58 = .ok (.getfield 51, 3) := by decide +kernel
theorem d_M_call_61 : decode b_M_call 61 = .ok (.iload_n 1, 1) := by decide +kernel
theorem d_M_call_62 : decode b_M_call 62 = .ok (.iaload, 1) := by decide +kernel
theorem d_M_call_63 : decode b_M_call 63 = .ok (.invokevirtual 128, 3) := by decide +kernel
theorem d_M_call_66 : decode b_M_call 66 = .ok (.ladd, 1) := by decide +kernel
theorem d_M_call_67 : decode b_M_call 67 = .ok (.goto 4, 3) := by decide +kernel
theorem d_M_call_70 : decode b_M_call 70 = .ok (.lload_n 3, 1) := by decide +kernel
theorem d_M_call_71 : decode b_M_call 71 = .ok (.lstore 7, 2) := by decide +kernel
theorem d_M_call_73 : decode b_M_call 73 = .ok (.aload_n 0, 1) := by decide +kernel
theorem d_M_call_74 : decode b_M_call 74 = .ok (.getfield 16, 3) := by decide +kernel
theorem d_M_call_77 : decode b_M_call 77 = .ok (.iload_n 2, 1) := by decide +kernel
theorem d_M_call_78 : decode b_M_call 78 = .ok (.iaload, 1) := by decide +kernel
theorem d_M_call_79 : decode b_M_call 79 = .ok (.istore 9, 2) := by decide +kernel
theorem d_M_call_81 : decode b_M_call 81 = .ok (.iload 6, 2) := by decide +kernel
theorem d_M_call_83 : decode b_M_call 83 = .ok (.ifCond .eq 90, 3) := by decide +kernel
theorem d_M_call_86 : decode b_M_call 86 = .ok (.aload_n 0, 1) := by decide +kernel
theorem d_M_call_87 : decode b_M_call 87 = .ok (.getfield 19, 3) := by decide +kernel
theorem d_M_call_90 : decode b_M_call 90 = .ok (.iload 9, 2) := by decide +kernel
theorem d_M_call_92 : decode b_M_call 92 = .ok (.iaload, 1) := by decide +kernel
theorem d_M_call_93 : decode b_M_call 93 = .ok (.ifCond .le 80, 3) := by decide +kernel
theorem d_M_call_96 : decode b_M_call 96 = .ok (.aload_n 0, 1) := by decide +kernel
theorem d_M_call_97 : decode b_M_call 97 = .ok (.getfield 38, 3) := by decide +kernel
theorem d_M_call_100 : decode b_M_call 100 = .ok (.aload_n 0, 1) := by decide +kernel
theorem d_M_call_101 : decode b_M_call 101 = .ok (.getfield 51, 3) := by decide +kernel
theorem d_M_call_104 : decode b_M_call 104 = .ok (.iload_n 1, 1) := by decide +kernel
theorem d_M_call_105 : decode b_M_call 105 = .ok (.iaload, 1) := by decide +kernel
theorem d_M_call_106 : decode b_M_call 106 = .ok (.iconst 0, 1) := by decide +kernel
theorem d_M_call_107 : decode b_M_call 107 = .ok (.iastore, 1) := by decide +kernel
theorem d_M_call_108 : decode b_M_call 108 = .ok (.bipush 6, 2) := by decide +kernel
theorem d_M_call_110 : decode b_M_call 110 = .ok (.iload 9, 2) := by decide +kernel
theorem d_M_call_112 : decode b_M_call 112 = .ok (.imul, 1) := by decide +kernel
theorem d_M_call_113 : decode b_M_call 113 = .ok (.aload_n 0, 1) := by decide +kernel
theorem d_M_call_114 : decode b_M_call 114 = .ok (.getfield 25, 3) := by decide +kernel
theorem d_M_call_117 : decode b_M_call 117 = .ok (.iload 9, 2) := by decide +kernel
theorem d_M_call_119 : decode b_M_call 119 = .ok (.iaload, 1) := by decide +kernel
theorem d_M_call_120 : decode b_M_call 120 = .ok (.iadd, 1) := by decide +kernel
theorem d_M_call_121 : decode b_M_call 121 = .ok (.istore 10, 2) := by decide +kernel
theorem d_M_call_123 : decode b_M_call 123 = .ok (.aload_n 0, 1) := by decide +kernel
theorem d_M_call_124 : decode b_M_call 124 = .ok (.getfield 28, 3) := by decide +kernel
theorem d_M_call_127 : decode b_M_call 127 = .ok (.iload 10, 2) := by decide +kernel
theorem d_M_call_129 : decode b_M_call 129 = .ok (.iload_n 1, 1) := by decide +kernel
theorem d_M_call_130 : decode b_M_call 130 = .ok (.iastore, 1) := by decide +kernel
theorem d_M_call_131 : decode b_M_call 131 = .ok (.aload_n 0, 1) := by decide +kernel
theorem d_M_call_132 : decode b_M_call 132 = .ok (.getfield 31, 3) := by decide +kernel
theorem d_M_call_135 : decode b_M_call 135 = .ok (.iload 10, 2) := by decide +kernel
theorem d_M_call_137 : decode b_M_call 137 = .ok (.iload_n 2, 1) := by decide +kernel
theorem d_M_call_138 : decode b_M_call 138 = .ok (.iastore, 1) := by decide +kernel
theorem d_M_call_139 : decode b_M_call 139 = .ok (.aload_n 0, 1) := by decide +kernel
theorem d_M_call_140 : decode b_M_call 140 = .ok (.getfield 34, 3) := by decide +kernel
theorem d_M_call_143 : decode b_M_call 143 = .ok (.iload 10, 2) := by decide +kernel
theorem d_M_call_145 : decode b_M_call 145 = .ok (.lload 7, 2) := by decide +kernel
theorem d_M_call_147 : decode b_M_call 147 = .ok (.lastore, 1) := by decide +kernel
theorem d_M_call_148 : decode b_M_call 148 = .ok (.aload_n 0, 1) := by decide +kernel
theorem d_M_call_149 : decode b_M_call 149 = .ok (.getfield 25, 3) := by decide +kernel
theorem d_M_call_152 : decode b_M_call 152 = .ok (.iload 9, 2) := by decide +kernel
theorem d_M_call_154 : decode b_M_call 154 = .ok (.dup2, 1) := by decide +kernel
theorem d_M_call_155 : decode b_M_call 155 = .ok (.iaload, 1) := by decide +kernel
theorem d_M_call_156 : decode b_M_call 156 = .ok (.iconst 1, 1) := by decide +kernel
theorem d_M_call_157 : decode b_M_call 157 = .ok (.iadd, 1) := by decide +kernel
theorem d_M_call_158 : decode b_M_call 158 = .ok (.iastore, 1) := by decide +kernel
theorem d_M_call_159 : decode b_M_call 159 = .ok (.aload_n 0, 1) := by decide +kernel
theorem d_M_call_160 : decode b_M_call 160 = .ok (.iconst 5, 1) := by decide +kernel
theorem d_M_call_161 : decode b_M_call 161 = .ok (.iload_n 2, 1) := by decide +kernel
theorem d_M_call_162 : decode b_M_call 162 = .ok (.iload_n 1, 1) := by decide +kernel
theorem d_M_call_163 : decode b_M_call 163 = .ok (.ldc2_w 132, 3) := by decide +kernel
theorem d_M_call_166 : decode b_M_call 166 = .ok (.invokevirtual 124, 3) := by decide +kernel
theorem d_M_call_169 : decode b_M_call 169 = .ok (.ldc2_w 132, 3) := by decide +kernel
theorem d_M_call_172 : decode b_M_call 172 = .ok (.lreturn, 1) := by decide +kernel
theorem d_M_call_173 : decode b_M_call 173 = .ok (.aload_n 0, 1) := by decide +kernel
theorem d_M_call_174 : decode b_M_call 174 = .ok (.iload_n 1, 1) := by decide +kernel
theorem d_M_call_175 : decode b_M_call 175 = .ok (.lload 7, 2) := by decide +kernel
theorem d_M_call_177 : decode b_M_call 177 = .ok (.invokevirtual 134, 3) := by decide +kernel
theorem d_M_call_180 : decode b_M_call 180 = .ok (.aload_n 0, 1) := by decide +kernel
theorem d_M_call_181 : decode b_M_call 181 = .ok (.getfield 113, 3) := by decide +kernel
theorem d_M_call_184 : decode b_M_call 184 = .ok (.ifCond .le 15, 3) := by decide +kernel
theorem d_M_call_187 : decode b_M_call 187 = .ok (.ldc2_w 138, 3) := by decide +kernel
theorem d_M_call_190 : decode b_M_call 190 = .ok (.aload_n 0, 1) := by decide +kernel
theorem d_M_call_191 : decode b_M_call 191 = .ok (.getfield 113, 3) := by decide +kernel
theorem d_M_call_194 : decode b_M_call 194 = .ok (.i2l, 1) := by decide +kernel
theorem d_M_call_195 : decode b_M_call 195 = .ok (.lsub, 1) := by decide +kernel
theorem d_M_call_196 : decode b_M_call 196 = .ok (.goto 7, 3) := by decide +kernel
theorem d_M_call_199 : decode b_M_call 199 = .ok (.aload_n 0, 1) := by decide +kernel
theorem d_M_call_200 : decode b_M_call 200 = .ok (.getfield 116, 3) := by decide +kernel
theorem d_M_call_203 : decode b_M_call 203 = .ok (.lstore 10, 2) := by decide +kernel
theorem d_M_call_205 : decode b_M_call 205 = .ok (.iload 6, 2) := by decide +kernel
theorem d_M_call_207 : decode b_M_call 207 = .ok (.ifCond .eq 22, 3) := by decide +kernel
theorem d_M_call_210 : decode b_M_call 210 = .ok (.aload_n 0, 1) := by decide +kernel
theorem d_M_call_211 : decode b_M_call 211 = .ok (.getfield 113, 3) := by decide +kernel
theorem d_M_call_214 : decode b_M_call 214 = .ok (.ifCond .ne 15, 3) := by decide +kernel
theorem d_M_call_217 : decode b_M_call 217 = .ok (.aload_n 0, 1) := by decide +kernel
theorem d_M_call_218 : decode b_M_call 218 = .ok (.getfield 38, 3) := by decide +kernel
theorem d_M_call_221 : decode b_M_call 221 = .ok (.aload_n 0, 1) := by decide +kernel
theorem d_M_call_222 : decode b_M_call 222 = .ok (.getfield 51, 3) := by decide +kernel
theorem d_M_call_225 : decode b_M_call 225 = .ok (.iload_n 1, 1) := by decide +kernel
theorem d_M_call_226 : decode b_M_call 226 = .ok (.iaload, 1) := by decide +kernel
theorem d_M_call_227 : decode b_M_call 227 = .ok (.iconst 0, 1) := by decide +kernel
theorem d_M_call_228 : decode b_M_call 228 = .ok (.iastore, 1) := by decide +kernel
theorem d_M_call_229 : decode b_M_call 229 = .ok (.aload_n 0, 1) := by decide +kernel
theorem d_M_call_230 : decode b_M_call 230 = .ok (.aload_n 0, 1) := by decide +kernel
theorem d_M_call_231 : decode b_M_call 231 = .ok (.getfield 113, 3) := by decide +kernel
theorem d_M_call_234 : decode b_M_call 234 = .ok (.iload_n 2, 1) := by decide +kernel
theorem d_M_call_235 : decode b_M_call 235 = .ok (.iload_n 1, 1) := by decide +kernel
theorem d_M_call_236 : decode b_M_call 236 = .ok (.lload 10, 2) := by decide +kernel
theorem d_M_call_238 : decode b_M_call 238 = .ok (.invokevirtual 124, 3) := by decide +kernel
theorem d_M_call_241 : decode b_M_call 241 = .ok (.lload 10, 2) := by decide +kernel
theorem d_M_call_243 : decode b_M_call 243 = .ok (.lreturn, 1) := by decide +kernel
theorem d_M_build_0 : decode b_M_build 0 = .ok (.aload_n 0, 1) := by decide +kernel
theorem d_M_build_1 : decode b_M_build 1 = .ok (.iconst 0, 1) := by decide +kernel
theorem d_M_build_2 : decode b_M_build 2 = .ok (.putfield 90, 3) := by decide +kernel
theorem d_M_build_5 : decode b_M_build 5 = .ok (.aload_n 0, 1) := by decide +kernel
theorem d_M_build_6 : decode b_M_build 6 = .ok (.iload_n 1, 1) := by decide +kernel
theorem d_M_build_7 : decode b_M_build 7 = .ok (.invokevirtual 140, 3) := by decide +kernel
theorem d_M_build_10 : decode b_M_build 10 = .ok (.ifCond .eq 23, 3) := by decide +kernel
theorem d_M_build_13 : decode b_M_build 13 = .ok (.aload_n 0, 1) := by decide +kernel
theorem d_M_build_14 : decode b_M_build 14 = .ok (.getfield 19, 3) := by decide +kernel
theorem d_M_build_17 : decode b_M_build 17 = .ok (.iload_n 1, 1) := by decide +kernel
theorem d_M_build_18 : decode b_M_build 18 = .ok (.iaload, 1) := by decide +kernel
theorem d_M_build_19 : decode b_M_build 19 = .ok (.ifCond .gt 14, 3) := by decide +kernel
theorem d_M_build_22 : decode b_M_build 22 = .ok (.iload_n 2, 1) := by decide +kernel
theorem d_M_build_23 : decode b_M_build 23 = .ok (.iconst 1, 1) := by decide +kernel
theorem d_M_build_24 : decode b_M_build 24 = .ok (.if_icmp .lt 9, 3) := by decide +kernel
theorem d_M_build_27 : decode b_M_build 27 = .ok (.iload_n 2, 1) := by decide +kernel
theorem d_M_build_28 : decode b_M_build 28 = .ok (.bipush 9, 2) := by decide +kernel
theorem d_M_build_30 : decode b_M_build 30 = .ok (.if_icmp .le 5, 3) := by decide +kernel
theorem d_M_build_33 : decode b_M_build 33 = .ok (.iconst 0, 1) := by decide +kernel
theorem d_M_build_34 : decode b_M_build 34 = .ok (.ireturn, 1) := by decide +kernel
theorem d_M_build_35 : decode b_M_build 35 = .ok (.aload_n 0, 1) := by decide +kernel
theorem d_M_build_36 : decode b_M_build 36 = .ok (.getfield 19, 3) := by decide +kernel
theorem d_M_build_39 : decode b_M_build 39 = .ok (.iload_n 1, 1) := by decide +kernel
theorem d_M_build_40 : decode b_M_build 40 = .ok (.iload_n 2, 1) := by decide +kernel
theorem d_M_build_41 : decode b_M_build 41 = .ok (.iastore, 1) := by decide +kernel
theorem d_M_build_42 : decode b_M_build 42 = .ok (.aload_n 0, 1) := by decide +kernel
theorem d_M_build_43 : decode b_M_build 43 = .ok (.getfield 22, 3) := by decide +kernel
theorem d_M_build_46 : decode b_M_build 46 = .ok (.iload_n 1, 1) := by decide +kernel
theorem d_M_build_47 : decode b_M_build 47 = .ok (.iconst 0, 1) := by decide +kernel
theorem d_M_build_48 : decode b_M_build 48 = .ok (.iastore, 1) := by decide +kernel
theorem d_M_build_49 : decode b_M_build 49 = .ok (.iconst 1, 1) := by decide +kernel
theorem d_M_build_50 : decode b_M_build 50 = .ok (.ireturn, 1) := by decide +kernel
theorem d_M_leastFor_0 : decode b_M_leastFor 0 = .ok (.iconst 0, 1) := by decide +kernel
theorem d_M_leastFor_1 : decode b_M_leastFor 1 = .ok (.istore_n 2, 1) := by decide +kernel
theorem d_M_leastFor_2 : decode b_M_leastFor 2 = .ok (.iload_n 2, 1) := by decide +kernel
theorem d_M_leastFor_3 : decode b_M_leastFor 3 = .ok (.bipush 12, 2) := by decide +kernel
theorem d_M_leastFor_5 : decode b_M_leastFor 5 = .ok (.if_icmp .ge 28, 3) := by decide +kernel
theorem d_M_leastFor_8 : decode b_M_leastFor 8 = .ok (.aload_n 0, 1) := by decide +kernel
theorem d_M_leastFor_9 : decode b_M_leastFor 9 = .ok (.getfield 44, 3) := by decide +kernel
theorem d_M_leastFor_12 : decode b_M_leastFor 12 = .ok (.iload_n 2, 1) := by decide +kernel
theorem d_M_leastFor_13 : decode b_M_leastFor 13 = .ok (.baload, 1) := by decide +kernel
theorem d_M_leastFor_14 : decode b_M_leastFor 14 = .ok (.ifCond .eq 13, 3) := by decide +kernel
theorem d_M_leastFor_17 : decode b_M_leastFor 17 = .ok (.aload_n 0, 1) := by decide +kernel
theorem d_M_leastFor_18 : decode b_M_leastFor 18 = .ok (.getfield 48, 3) := by decide +kernel
theorem d_M_leastFor_21 : decode b_M_leastFor 21 = .ok (.iload_n 2, 1) := by decide +kernel
theorem d_M_leastFor_22 : decode b_M_leastFor 22 = .ok (.iaload, 1) := by decide +kernel
theorem d_M_leastFor_23 : decode b_M_leastFor 23 = .ok (.iload_n 1, 1) := by decide +kernel
theorem d_M_leastFor_24 : decode b_M_leastFor 24 = .ok (.if_icmp .eq 9, 3) := by decide +kernel
theorem d_M_leastFor_27 : decode b_M_leastFor 27 = .ok (.iinc 2 1, 3) := by decide +kernel
theorem d_M_leastFor_30 : decode b_M_leastFor 30 = .ok (.goto (-28), 3) := by decide +kernel
theorem d_M_leastFor_33 : decode b_M_leastFor 33 = .ok (.iload_n 2, 1) := by decide +kernel
theorem d_M_leastFor_34 : decode b_M_leastFor 34 = .ok (.bipush 12, 2) := by decide +kernel
theorem d_M_leastFor_36 : decode b_M_leastFor 36 = .ok (.if_icmp .ne 7, 3) := by decide +kernel
theorem d_M_leastFor_39 : decode b_M_leastFor 39 = .ok (.iconst (-1), 1) := by decide +kernel
theorem d_M_leastFor_40 : decode b_M_leastFor 40 = .ok (.goto 4, 3) := by decide +kernel
theorem d_M_leastFor_43 : decode b_M_leastFor 43 = .ok (.iload_n 2, 1) := by decide +kernel
theorem d_M_leastFor_44 : decode b_M_leastFor 44 = .ok (.ireturn, 1) := by decide +kernel
theorem d_M_turn_0 : decode b_M_turn 0 = .ok (.aload_n 0, 1) := by decide +kernel
theorem d_M_turn_1 : decode b_M_turn 1 = .ok (.iconst 0, 1) := by decide +kernel
theorem d_M_turn_2 : decode b_M_turn 2 = .ok (.putfield 90, 3) := by decide +kernel
theorem d_M_turn_5 : decode b_M_turn 5 = .ok (.aload_n 0, 1) := by decide +kernel
theorem d_M_turn_6 : decode b_M_turn 6 = .ok (.iload_n 1, 1) := by decide +kernel
theorem d_M_turn_7 : decode b_M_turn 7 = .ok (.invokevirtual 140, 3) := by decide +kernel
theorem d_M_turn_10 : decode b_M_turn 10 = .ok (.ifCond .eq 12, 3) := by decide +kernel
theorem d_M_turn_13 : decode b_M_turn 13 = .ok (.aload_n 0, 1) := by decide +kernel
theorem d_M_turn_14 : decode b_M_turn 14 = .ok (.getfield 19, 3) := by decide +kernel
theorem d_M_turn_17 : decode b_M_turn 17 = .ok (.iload_n 1, 1) := by decide +kernel
theorem d_M_turn_18 : decode b_M_turn 18 = .ok (.iaload, 1) := by decide +kernel
theorem d_M_turn_19 : decode b_M_turn 19 = .ok (.ifCond .ne 5, 3) := by decide +kernel
theorem d_M_turn_22 : decode b_M_turn 22 = .ok (.iconst (-1), 1) := by decide +kernel
theorem d_M_turn_23 : decode b_M_turn 23 = .ok (.ireturn, 1) := by decide +kernel
theorem d_M_turn_24 : decode b_M_turn 24 = .ok (.aload_n 0, 1) := by decide +kernel
theorem d_M_turn_25 : decode b_M_turn 25 = .ok (.getfield 22, 3) := by decide +kernel
theorem d_M_turn_28 : decode b_M_turn 28 = .ok (.iload_n 1, 1) := by decide +kernel
theorem d_M_turn_29 : decode b_M_turn 29 = .ok (.dup2, 1) := by decide +kernel
theorem d_M_turn_30 : decode b_M_turn 30 = .ok (.iaload, 1) := by decide +kernel
theorem d_M_turn_31 : decode b_M_turn 31 = .ok (.iconst 1, 1) := by decide +kernel
theorem d_M_turn_32 : decode b_M_turn 32 = .ok (.iadd, 1) := by decide +kernel
theorem d_M_turn_33 : decode b_M_turn 33 = .ok (.iastore, 1) := by decide +kernel
theorem d_M_turn_34 : decode b_M_turn 34 = .ok (.iconst 0, 1) := by decide +kernel
theorem d_M_turn_35 : decode b_M_turn 35 = .ok (.istore_n 2, 1) := by decide +kernel
theorem d_M_turn_36 : decode b_M_turn 36 = .ok (.iconst 0, 1) := by decide +kernel
theorem d_M_turn_37 : decode b_M_turn 37 = .ok (.istore_n 3, 1) := by decide +kernel
theorem d_M_turn_38 : decode b_M_turn 38 = .ok (.iload_n 3, 1) := by decide +kernel
theorem d_M_turn_39 : decode b_M_turn 39 = .ok (.aload_n 0, 1) := by decide +kernel
theorem d_M_turn_40 : decode b_M_turn 40 = .ok (.getfield 94, 3) := by decide +kernel
theorem d_M_turn_43 : decode b_M_turn 43 = .ok (.if_icmp .ge 106, 3) := by decide +kernel
theorem d_M_turn_46 : decode b_M_turn 46 = .ok (.aload_n 0, 1) := by decide +kernel
theorem d_M_turn_47 : decode b_M_turn 47 = .ok (.getfield 7, 3) := by decide +kernel
theorem d_M_turn_50 : decode b_M_turn 50 = .ok (.iload_n 3, 1) := by decide +kernel
theorem d_M_turn_51 : decode b_M_turn 51 = .ok (.iaload, 1) := by decide +kernel
theorem d_M_turn_52 : decode b_M_turn 52 = .ok (.iconst 4, 1) := by decide +kernel
theorem d_M_turn_53 : decode b_M_turn 53 = .ok (.if_icmp .eq 13, 3) := by decide +kernel
theorem d_M_turn_56 : decode b_M_turn 56 = .ok (.aload_n 0, 1) := by decide +kernel
theorem d_M_turn_57 : decode b_M_turn 57 = .ok (.getfield 7, 3) := by decide +kernel
theorem d_M_turn_60 : decode b_M_turn 60 = .ok (.iload_n 3, 1) := by decide +kernel
theorem d_M_turn_61 : decode b_M_turn 61 = .ok (.iaload, 1) := by decide +kernel
theorem d_M_turn_62 : decode b_M_turn 62 = .ok (.iconst 5, 1) := by decide +kernel
theorem d_M_turn_63 : decode b_M_turn 63 = .ok (.if_icmp .ne 80, 3) := by decide +kernel
theorem d_M_turn_66 : decode b_M_turn 66 = .ok (.aload_n 0, 1) := by decide +kernel
theorem d_M_turn_67 : decode b_M_turn 67 = .ok (.getfield 16, 3) := by decide +kernel
theorem d_M_turn_70 : decode b_M_turn 70 = .ok (.iload_n 3, 1) := by decide +kernel
theorem d_M_turn_71 : decode b_M_turn 71 = .ok (.iaload, 1) := by decide +kernel
theorem d_M_turn_72 : decode b_M_turn 72 = .ok (.iload_n 1, 1) := by decide +kernel
theorem d_M_turn_73 : decode b_M_turn 73 = .ok (.if_icmp .eq 6, 3) := by decide +kernel
theorem d_M_turn_76 : decode b_M_turn 76 = .ok (.goto 67, 3) := by decide +kernel
theorem d_M_turn_79 : decode b_M_turn 79 = .ok (.aload_n 0, 1) := by decide +kernel
theorem d_M_turn_80 : decode b_M_turn 80 = .ok (.aload_n 0, 1) := by decide +kernel
theorem d_M_turn_81 : decode b_M_turn 81 = .ok (.getfield 7, 3) := by decide +kernel
theorem d_M_turn_84 : decode b_M_turn 84 = .ok (.iload_n 3, 1) := by decide +kernel
theorem d_M_turn_85 : decode b_M_turn 85 = .ok (.iaload, 1) := by decide +kernel
theorem d_M_turn_86 : decode b_M_turn 86 = .ok (.invokevirtual 143, 3) := by decide +kernel
theorem d_M_turn_89 : decode b_M_turn 89 = .ok (.istore 4, 2) := by decide +kernel
theorem d_M_turn_91 : decode b_M_turn 91 = .ok (.iload 4, 2) := by decide +kernel
theorem d_M_turn_93 : decode b_M_turn 93 = .ok (.iconst (-1), 1) := by decide +kernel
theorem d_M_turn_94 : decode b_M_turn 94 = .ok (.if_icmp .ne 6, 3) := by decide +kernel
theorem d_M_turn_97 : decode b_M_turn 97 = .ok (.goto 46, 3) := by decide +kernel
theorem d_M_turn_100 : decode b_M_turn 100 = .ok (.aload_n 0, 1) := by decide +kernel
theorem d_M_turn_101 : decode b_M_turn 101 = .ok (.iload 4, 2) := by decide +kernel
theorem d_M_turn_103 : decode b_M_turn 103 = .ok (.aload_n 0, 1) := by decide +kernel
theorem d_M_turn_104 : decode b_M_turn 104 = .ok (.getfield 22, 3) := by decide +kernel
theorem d_M_turn_107 : decode b_M_turn 107 = .ok (.iload_n 1, 1) := by decide +kernel
theorem d_M_turn_108 : decode b_M_turn 108 = .ok (.iaload, 1) := by decide +kernel
theorem d_M_turn_109 : decode b_M_turn 109 = .ok (.i2l, 1) := by decide +kernel
theorem d_M_turn_110 : decode b_M_turn 110 = .ok (.invokevirtual 134, 3) := by decide +kernel
theorem d_M_turn_113 : decode b_M_turn 113 = .ok (.iload_n 2, 1) := by decide +kernel
theorem d_M_turn_114 : decode b_M_turn 114 = .ok (.aload_n 0, 1) := by decide +kernel
theorem d_M_turn_115 : decode b_M_turn 115 = .ok (.getfield 113, 3) := by decide +kernel
theorem d_M_turn_118 : decode b_M_turn 118 = .ok (.ifCond .ne 7, 3) := by decide +kernel
theorem d_M_turn_121 : decode b_M_turn 121 = .ok (.iconst 1, 1) := by decide +kernel
theorem d_M_turn_122 : decode b_M_turn 122 = .ok (.goto 4, 3) := by decide +kernel
theorem d_M_turn_125 : decode b_M_turn 125 = .ok (.iconst 0, 1) := by decide +kernel
theorem d_M_turn_126 : decode b_M_turn 126 = .ok (.iadd, 1) := by decide +kernel
theorem d_M_turn_127 : decode b_M_turn 127 = .ok (.istore_n 2, 1) := by decide +kernel
theorem d_M_turn_128 : decode b_M_turn 128 = .ok (.aload_n 0, 1) := by decide +kernel
theorem d_M_turn_129 : decode b_M_turn 129 = .ok (.aload_n 0, 1) := by decide +kernel
theorem d_M_turn_130 : decode b_M_turn 130 = .ok (.getfield 113, 3) := by decide +kernel
theorem d_M_turn_133 : decode b_M_turn 133 = .ok (.iload_n 3, 1) := by decide +kernel
theorem d_M_turn_134 : decode b_M_turn 134 = .ok (.iload 4, 2) := by decide +kernel
theorem d_M_turn_136 : decode b_M_turn 136 = .ok (.aload_n 0, 1) := by decide +kernel
theorem d_M_turn_137 : decode b_M_turn 137 = .ok (.getfield 116, 3) := by decide +kernel
theorem d_M_turn_140 : decode b_M_turn 140 = .ok (.invokevirtual 124, 3) := by decide +kernel
theorem d_M_turn_143 : decode b_M_turn 143 = .ok (.iinc 3 1, 3) := by decide +kernel
theorem d_M_turn_146 : decode b_M_turn 146 = .ok (.goto (-108), 3) := by decide +kernel
theorem d_M_turn_149 : decode b_M_turn 149 = .ok (.aload_n 0, 1) := by decide +kernel
theorem d_M_turn_150 : decode b_M_turn 150 = .ok (.getfield 19, 3) := by decide +kernel
theorem d_M_turn_153 : decode b_M_turn 153 = .ok (.iload_n 1, 1) := by decide +kernel
theorem d_M_turn_154 : decode b_M_turn 154 = .ok (.dup2, 1) := by decide +kernel
theorem d_M_turn_155 : decode b_M_turn 155 = .ok (.iaload, 1) := by decide +kernel
theorem d_M_turn_156 : decode b_M_turn 156 = .ok (.iconst 1, 1) := by decide +kernel
theorem d_M_turn_157 : decode b_M_turn 157 = .ok (.isub, 1) := by decide +kernel
theorem d_M_turn_158 : decode b_M_turn 158 = .ok (.iastore, 1) := by decide +kernel
theorem d_M_turn_159 : decode b_M_turn 159 = .ok (.aload_n 0, 1) := by decide +kernel
theorem d_M_turn_160 : decode b_M_turn 160 = .ok (.getfield 19, 3) := by decide +kernel
theorem d_M_turn_163 : decode b_M_turn 163 = .ok (.iload_n 1, 1) := by decide +kernel
theorem d_M_turn_164 : decode b_M_turn 164 = .ok (.iaload, 1) := by decide +kernel
theorem d_M_turn_165 : decode b_M_turn 165 = .ok (.ifCond .le 5, 3) := by decide +kernel
theorem d_M_turn_168 : decode b_M_turn 168 = .ok (.iload_n 2, 1) := by decide +kernel
theorem d_M_turn_169 : decode b_M_turn 169 = .ok (.ireturn, 1) := by decide +kernel
theorem d_M_turn_170 : decode b_M_turn 170 = .ok (.bipush 6, 2) := by decide +kernel
theorem d_M_turn_172 : decode b_M_turn 172 = .ok (.iload_n 1, 1) := by decide +kernel
theorem d_M_turn_173 : decode b_M_turn 173 = .ok (.imul, 1) := by decide +kernel
theorem d_M_turn_174 : decode b_M_turn 174 = .ok (.istore_n 3, 1) := by decide +kernel
theorem d_M_turn_175 : decode b_M_turn 175 = .ok (.iload_n 3, 1) := by decide +kernel
theorem d_M_turn_176 : decode b_M_turn 176 = .ok (.bipush 6, 2) := by decide +kernel
theorem d_M_turn_178 : decode b_M_turn 178 = .ok (.iload_n 1, 1) := by decide +kernel
theorem d_M_turn_179 : decode b_M_turn 179 = .ok (.imul, 1) := by decide +kernel
theorem d_M_turn_180 : decode b_M_turn 180 = .ok (.aload_n 0, 1) := by decide +kernel
theorem d_M_turn_181 : decode b_M_turn 181 = .ok (.getfield 25, 3) := by decide +kernel
theorem d_M_turn_184 : decode b_M_turn 184 = .ok (.iload_n 1, 1) := by decide +kernel
theorem d_M_turn_185 : decode b_M_turn 185 = .ok (.iaload, 1) := by decide +kernel
theorem d_M_turn_186 : decode b_M_turn 186 = .ok (.iadd, 1) := by decide +kernel
theorem d_M_turn_187 : decode b_M_turn 187 = .ok (.if_icmp .ge 49, 3) := by decide +kernel
theorem d_M_turn_190 : decode b_M_turn 190 = .ok (.aload_n 0, 1) := by decide +kernel
theorem d_M_turn_191 : decode b_M_turn 191 = .ok (.aload_n 0, 1) := by decide +kernel
theorem d_M_turn_192 : decode b_M_turn 192 = .ok (.getfield 28, 3) := by decide +kernel
theorem d_M_turn_195 : decode b_M_turn 195 = .ok (.iload_n 3, 1) := by decide +kernel
theorem d_M_turn_196 : decode b_M_turn 196 = .ok (.iaload, 1) := by decide +kernel
theorem d_M_turn_197 : decode b_M_turn 197 = .ok (.aload_n 0, 1) := by decide +kernel
theorem d_M_turn_198 : decode b_M_turn 198 = .ok (.getfield 34, 3) := by decide +kernel
theorem d_M_turn_201 : decode b_M_turn 201 = .ok (.iload_n 3, 1) := by decide +kernel
theorem d_M_turn_202 : decode b_M_turn 202 = .ok (.laload, 1) := by decide +kernel
theorem d_M_turn_203 : decode b_M_turn 203 = .ok (.invokevirtual 134, 3) := by decide +kernel
theorem d_M_turn_206 : decode b_M_turn 206 = .ok (.aload_n 0, 1) := by decide +kernel
theorem d_M_turn_207 : decode b_M_turn 207 = .ok (.aload_n 0, 1) := by decide +kernel
theorem d_M_turn_208 : decode b_M_turn 208 = .ok (.getfield 113, 3) := by decide +kernel
theorem d_M_turn_211 : decode b_M_turn 211 = .ok (.aload_n 0, 1) := by decide +kernel
theorem d_M_turn_212 : decode b_M_turn 212 = .ok (.getfield 31, 3) := by decide +kernel
theorem d_M_turn_215 : decode b_M_turn 215 = .ok (.iload_n 3, 1) := by decide +kernel
theorem d_M_turn_216 : decode b_M_turn 216 = .ok (.iaload, 1) := by decide +kernel
theorem d_M_turn_217 : decode b_M_turn 217 = .ok (.aload_n 0, 1) := by decide +kernel
theorem d_M_turn_218 : decode b_M_turn 218 = .ok (.getfield 28, 3) := by decide +kernel
theorem d_M_turn_221 : decode b_M_turn 221 = .ok (.iload_n 3, 1) := by decide +kernel
theorem d_M_turn_222 : decode b_M_turn 222 = .ok (.iaload, 1) := by decide +kernel
theorem d_M_turn_223 : decode b_M_turn 223 = .ok (.aload_n 0, 1) := by decide +kernel
theorem d_M_turn_224 : decode b_M_turn 224 = .ok (.getfield 116, 3) := by decide +kernel
theorem d_M_turn_227 : decode b_M_turn 227 = .ok (.invokevirtual 124, 3) := by decide +kernel
theorem d_M_turn_230 : decode b_M_turn 230 = .ok (.iinc 3 1, 3) := by decide +kernel
theorem d_M_turn_233 : decode b_M_turn 233 = .ok (.goto (-58), 3) := by decide +kernel
theorem d_M_turn_236 : decode b_M_turn 236 = .ok (.aload_n 0, 1) := by decide +kernel
theorem d_M_turn_237 : decode b_M_turn 237 = .ok (.getfield 25, 3) := by decide +kernel
theorem d_M_turn_240 : decode b_M_turn 240 = .ok (.iload_n 1, 1) := by decide +kernel
theorem d_M_turn_241 : decode b_M_turn 241 = .ok (.iconst 0, 1) := by decide +kernel
theorem d_M_turn_242 : decode b_M_turn 242 = .ok (.iastore, 1) := by decide +kernel
theorem d_M_turn_243 : decode b_M_turn 243 = .ok (.iload_n 2, 1) := by decide +kernel
theorem d_M_turn_244 : decode b_M_turn 244 = .ok (.ireturn, 1) := by decide +kernel
theorem d_M_building_0 : decode b_M_building 0 = .ok (.aload_n 0, 1) := by decide +kernel
theorem d_M_building_1 : decode b_M_building 1 = .ok (.iconst 0, 1) := by decide +kernel
theorem d_M_building_2 : decode b_M_building 2 = .ok (.putfield 90, 3) := by decide +kernel
theorem d_M_building_5 : decode b_M_building 5 = .ok (.aload_n 0, 1) := by decide +kernel
theorem d_M_building_6 : decode b_M_building 6 = .ok (.iload_n 1, 1) := by decide +kernel
theorem d_M_building_7 : decode b_M_building 7 = .ok (.invokevirtual 140, 3) := by decide +kernel
theorem d_M_building_10 : decode b_M_building 10 = .ok (.ifCond .ne 7, 3) := by decide +kernel
theorem d_M_building_13 : decode b_M_building 13 = .ok (.iconst (-1), 1) := by decide +kernel
theorem d_M_building_14 : decode b_M_building 14 = .ok (.goto 31, 3) := by decide +kernel
theorem d_M_building_17 : decode b_M_building 17 = .ok (.iload_n 2, 1) := by decide +kernel
theorem d_M_building_18 : decode b_M_building 18 = .ok (.ifCond .ne 12, 3) := by decide +kernel
theorem d_M_building_21 : decode b_M_building 21 = .ok (.aload_n 0, 1) := by decide +kernel
theorem d_M_building_22 : decode b_M_building 22 = .ok (.getfield 19, 3) := by decide +kernel
theorem d_M_building_25 : decode b_M_building 25 = .ok (.iload_n 1, 1) := by decide +kernel
theorem d_M_building_26 : decode b_M_building 26 = .ok (.iaload, 1) := by decide +kernel
theorem d_M_building_27 : decode b_M_building 27 = .ok (.goto 18, 3) := by decide +kernel
theorem d_M_building_30 : decode b_M_building 30 = .ok (.iload_n 2, 1) := by decide +kernel
theorem d_M_building_31 : decode b_M_building 31 = .ok (.iconst 1, 1) := by decide +kernel
theorem d_M_building_32 : decode b_M_building 32 = .ok (.if_icmp .ne 12, 3) := by decide +kernel
theorem d_M_building_35 : decode b_M_building 35 = .ok (.aload_n 0, 1) := by decide +kernel
theorem d_M_building_36 : decode b_M_building 36 = .ok (.getfield 25, 3) := by decide +kernel
theorem d_M_building_39 : decode b_M_building 39 = .ok (.iload_n 1, 1) := by decide +kernel
theorem d_M_building_40 : decode b_M_building 40 = .ok (.iaload, 1) := by decide +kernel
theorem d_M_building_41 : decode b_M_building 41 = .ok (.goto 4, 3) := by decide +kernel
theorem d_M_building_44 : decode b_M_building 44 = .ok (.iconst (-1), 1) := by decide +kernel
theorem d_M_building_45 : decode b_M_building 45 = .ok (.ireturn, 1) := by decide +kernel
theorem d_M_isTold_0 : decode b_M_isTold 0 = .ok (.iload_n 1, 1) := by decide +kernel
theorem d_M_isTold_1 : decode b_M_isTold 1 = .ok (.ifCond .lt 23, 3) := by decide +kernel
theorem d_M_isTold_4 : decode b_M_isTold 4 = .ok (.iload_n 1, 1) := by decide +kernel
theorem d_M_isTold_5 : decode b_M_isTold 5 = .ok (.bipush 40, 2) := by decide +kernel
theorem d_M_isTold_7 : decode b_M_isTold 7 = .ok (.if_icmp .ge 17, 3) := by decide +kernel
theorem d_M_isTold_10 : decode b_M_isTold 10 = .ok (.iload_n 1, 1) := by decide +kernel
theorem d_M_isTold_11 : decode b_M_isTold 11 = .ok (.aload_n 0, 1) := by decide +kernel
theorem d_M_isTold_12 : decode b_M_isTold 12 = .ok (.getfield 84, 3) := by decide +kernel
theorem d_M_isTold_15 : decode b_M_isTold 15 = .ok (.iconst 0, 1) := by decide +kernel
theorem d_M_isTold_16 : decode b_M_isTold 16 = .ok (.iaload, 1) := by decide +kernel
theorem d_M_isTold_17 : decode b_M_isTold 17 = .ok (.if_icmp .ge 7, 3) := by decide +kernel
theorem d_M_isTold_20 : decode b_M_isTold 20 = .ok (.iconst 1, 1) := by decide +kernel
theorem d_M_isTold_21 : decode b_M_isTold 21 = .ok (.goto 4, 3) := by decide +kernel
theorem d_M_isTold_24 : decode b_M_isTold 24 = .ok (.iconst 0, 1) := by decide +kernel
theorem d_M_isTold_25 : decode b_M_isTold 25 = .ok (.ireturn, 1) := by decide +kernel
theorem d_M_placeOf_0 : decode b_M_placeOf 0 = .ok (.aload_n 0, 1) := by decide +kernel
theorem d_M_placeOf_1 : decode b_M_placeOf 1 = .ok (.getfield 84, 3) := by decide +kernel
theorem d_M_placeOf_4 : decode b_M_placeOf 4 = .ok (.iconst 0, 1) := by decide +kernel
theorem d_M_placeOf_5 : decode b_M_placeOf 5 = .ok (.iaload, 1) := by decide +kernel
theorem d_M_placeOf_6 : decode b_M_placeOf 6 = .ok (.iconst 1, 1) := by decide +kernel
theorem d_M_placeOf_7 : decode b_M_placeOf 7 = .ok (.isub, 1) := by decide +kernel
theorem d_M_placeOf_8 : decode b_M_placeOf 8 = .ok (.iload_n 1, 1) := by decide +kernel
theorem d_M_placeOf_9 : decode b_M_placeOf 9 = .ok (.isub, 1) := by decide +kernel
theorem d_M_placeOf_10 : decode b_M_placeOf 10 = .ok (.bipush 40, 2) := by decide +kernel
theorem d_M_placeOf_12 : decode b_M_placeOf 12 = .ok (.irem, 1) := by decide +kernel
theorem d_M_placeOf_13 : decode b_M_placeOf 13 = .ok (.ireturn, 1) := by decide +kernel
theorem d_M_told_0 : decode b_M_told 0 = .ok (.aload_n 0, 1) := by decide +kernel
theorem d_M_told_1 : decode b_M_told 1 = .ok (.iconst 0, 1) := by decide +kernel
theorem d_M_told_2 : decode b_M_told 2 = .ok (.putfield 90, 3) := by decide +kernel
theorem d_M_told_5 : decode b_M_told 5 = .ok (.aload_n 0, 1) := by decide +kernel
theorem d_M_told_6 : decode b_M_told 6 = .ok (.iload_n 1, 1) := by decide +kernel
theorem d_M_told_7 : decode b_M_told 7 = .ok (.invokevirtual 146, 3) := by decide +kernel
theorem d_M_told_10 : decode b_M_told 10 = .ok (.ifCond .ne 5, 3) := by decide +kernel
theorem d_M_told_13 : decode b_M_told 13 = .ok (.iconst (-1), 1) := by decide +kernel
theorem d_M_told_14 : decode b_M_told 14 = .ok (.ireturn, 1) := by decide +kernel
theorem d_M_told_15 : decode b_M_told 15 = .ok (.aload_n 0, 1) := by decide +kernel
theorem d_M_told_16 : decode b_M_told 16 = .ok (.iload_n 1, 1) := by decide +kernel
theorem d_M_told_17 : decode b_M_told 17 = .ok (.invokevirtual 149, 3) := by decide +kernel
theorem d_M_told_20 : decode b_M_told 20 = .ok (.istore_n 3, 1) := by decide +kernel
theorem d_M_told_21 : decode b_M_told 21 = .ok (.iload_n 2, 1) := by decide +kernel
theorem d_M_told_22 : decode b_M_told 22 = .ok (.ifCond .ne 12, 3) := by decide +kernel
theorem d_M_told_25 : decode b_M_told 25 = .ok (.aload_n 0, 1) := by decide +kernel
theorem d_M_told_26 : decode b_M_told 26 = .ok (.getfield 75, 3) := by decide +kernel
theorem d_M_told_29 : decode b_M_told 29 = .ok (.iload_n 3, 1) := by decide +kernel
theorem d_M_told_30 : decode b_M_told 30 = .ok (.iaload, 1) := by decide +kernel
theorem d_M_told_31 : decode b_M_told 31 = .ok (.goto 32, 3) := by decide +kernel
theorem d_M_told_34 : decode b_M_told 34 = .ok (.iload_n 2, 1) := by decide +kernel
theorem d_M_told_35 : decode b_M_told 35 = .ok (.iconst 1, 1) := by decide +kernel
theorem d_M_told_36 : decode b_M_told 36 = .ok (.if_icmp .ne 12, 3) := by decide +kernel
theorem d_M_told_39 : decode b_M_told 39 = .ok (.aload_n 0, 1) := by decide +kernel
theorem d_M_told_40 : decode b_M_told 40 = .ok (.getfield 78, 3) := by decide +kernel
theorem d_M_told_43 : decode b_M_told 43 = .ok (.iload_n 3, 1) := by decide +kernel
theorem d_M_told_44 : decode b_M_told 44 = .ok (.iaload, 1) := by decide +kernel
theorem d_M_told_45 : decode b_M_told 45 = .ok (.goto 18, 3) := by decide +kernel
theorem d_M_told_48 : decode b_M_told 48 = .ok (.iload_n 2, 1) := by decide +kernel
theorem d_M_told_49 : decode b_M_told 49 = .ok (.iconst 2, 1) := by decide +kernel
theorem d_M_told_50 : decode b_M_told 50 = .ok (.if_icmp .ne 12, 3) := by decide +kernel
theorem d_M_told_53 : decode b_M_told 53 = .ok (.aload_n 0, 1) := by decide +kernel
theorem d_M_told_54 : decode b_M_told 54 = .ok (.getfield 81, 3) := by decide +kernel
theorem d_M_told_57 : decode b_M_told 57 = .ok (.iload_n 3, 1) := by decide +kernel
theorem d_M_told_58 : decode b_M_told 58 = .ok (.iaload, 1) := by decide +kernel
theorem d_M_told_59 : decode b_M_told 59 = .ok (.goto 4, 3) := by decide +kernel
theorem d_M_told_62 : decode b_M_told 62 = .ok (.iconst (-1), 1) := by decide +kernel
theorem d_M_told_63 : decode b_M_told 63 = .ok (.ireturn, 1) := by decide +kernel
theorem d_M_value_0 : decode b_M_value 0 = .ok (.aload_n 0, 1) := by decide +kernel
theorem d_M_value_1 : decode b_M_value 1 = .ok (.iconst 0, 1) := by decide +kernel
theorem d_M_value_2 : decode b_M_value 2 = .ok (.putfield 90, 3) := by decide +kernel
theorem d_M_value_5 : decode b_M_value 5 = .ok (.aload_n 0, 1) := by decide +kernel
theorem d_M_value_6 : decode b_M_value 6 = .ok (.iload_n 1, 1) := by decide +kernel
theorem d_M_value_7 : decode b_M_value 7 = .ok (.invokevirtual 146, 3) := by decide +kernel
theorem d_M_value_10 : decode b_M_value 10 = .ok (.ifCond .eq 16, 3) := by decide +kernel
theorem d_M_value_13 : decode b_M_value 13 = .ok (.aload_n 0, 1) := by decide +kernel
theorem d_M_value_14 : decode b_M_value 14 = .ok (.getfield 87, 3) := by decide +kernel
theorem d_M_value_17 : decode b_M_value 17 = .ok (.aload_n 0, 1) := by decide +kernel
theorem d_M_value_18 : decode b_M_value 18 = .ok (.iload_n 1, 1) := by decide +kernel
theorem d_M_value_19 : decode b_M_value 19 = .ok (.invokevirtual 149, 3) := by decide +kernel
theorem d_M_value_22 : decode b_M_value 22 = .ok (.laload, 1) := by decide +kernel
theorem d_M_value_23 : decode b_M_value 23 = .ok (.goto 4, 3) := by decide +kernel
theorem d_M_value_26 : decode b_M_value 26 = .ok (.lconst 0, 1) := by decide +kernel
theorem d_M_value_27 : decode b_M_value 27 = .ok (.lreturn, 1) := by decide +kernel
theorem d_M_count_0 : decode b_M_count 0 = .ok (.aload_n 0, 1) := by decide +kernel
theorem d_M_count_1 : decode b_M_count 1 = .ok (.iconst 0, 1) := by decide +kernel
theorem d_M_count_2 : decode b_M_count 2 = .ok (.putfield 90, 3) := by decide +kernel
theorem d_M_count_5 : decode b_M_count 5 = .ok (.iload_n 1, 1) := by decide +kernel
theorem d_M_count_6 : decode b_M_count 6 = .ok (.ifCond .lt 8, 3) := by decide +kernel
theorem d_M_count_9 : decode b_M_count 9 = .ok (.iload_n 1, 1) := by decide +kernel
theorem d_M_count_10 : decode b_M_count 10 = .ok (.iconst 4, 1) := by decide +kernel
theorem d_M_count_11 : decode b_M_count 11 = .ok (.if_icmp .le 7, 3) := by decide +kernel
theorem d_M_count_14 : decode b_M_count 14 = .ok (.iconst (-1), 1) := by decide +kernel
theorem d_M_count_15 : decode b_M_count 15 = .ok (.goto 9, 3) := by decide +kernel
theorem d_M_count_18 : decode b_M_count 18 = .ok (.aload_n 0, 1) := by decide +kernel
theorem d_M_count_19 : decode b_M_count 19 = .ok (.getfield 84, 3) := by decide +kernel
theorem d_M_count_22 : decode b_M_count 22 = .ok (.iload_n 1, 1) := by decide +kernel
theorem d_M_count_23 : decode b_M_count 23 = .ok (.iaload, 1) := by decide +kernel
theorem d_M_count_24 : decode b_M_count 24 = .ok (.ireturn, 1) := by decide +kernel
end
section
/-! One memory for all cells of the class and of the reference: a cell is (role, number); its contents are numbers; the addresses are a function of both. -/
abbrev mMem : Type := (Nat → Nat → Nat → Int32) × (Nat → Nat → Nat → Int64)
abbrev mTau : Type := (Nat → Nat → Nat) × (Nat → Nat → Prop)
/-- classes and slots, array classes, where the new cells begin, the heap at the start -/
abbrev mG : Type := va_G × (Nat → ClassId) × Nat × Heap
def sI (μ : mMem) (r i k : Nat) (x : Int32) : mMem := (fun a b c => if a = r ∧ b = i ∧ c = k then x else μ.1 a b c, μ.2)
def sL (μ : mMem) (r i k : Nat) (x : Int64) : mMem := (μ.1, fun a b c => if a = r ∧ b = i ∧ c = k then x else μ.2 a b c)
def oC {α β : Type} (o : Option α) (a : β) (b : α → β) : β := match o with
  | none => a
  | some x => b x
theorem oC_n {α β : Type} {o : Option α} {a : β} {b : α → β} (h : o = none) : oC o a b = a := by subst h; rfl
theorem oC_s {α β : Type} {o : Option α} {a : β} {b : α → β} {x : α} (h : o = some x) : oC o a b = b x := by subst h; rfl
theorem sI_1 (μ : mMem) (r i k : Nat) (x : Int32) (a b c : Nat) : (sI μ r i k x).1 a b c = if a = r ∧ b = i ∧ c = k then x else μ.1 a b c := rfl
theorem sI_2 (μ : mMem) (r i k : Nat) (x : Int32) : (sI μ r i k x).2 = μ.2 := rfl
theorem sL_1 (μ : mMem) (r i k : Nat) (x : Int64) : (sL μ r i k x).1 = μ.1 := rfl
theorem sL_2 (μ : mMem) (r i k : Nat) (x : Int64) (a b c : Nat) : (sL μ r i k x).2 a b c = if a = r ∧ b = i ∧ c = k then x else μ.2 a b c := rfl
theorem sI_row (μ : mMem) (r i k : Nat) (x : Int32) : (sI μ r i k x).1 r i = upd (μ.1 r i) k x := by
  funext c
  simp [sI, upd]
theorem sL_row (μ : mMem) (r i k : Nat) (x : Int64) : (sL μ r i k x).2 r i = vp_updL (μ.2 r i) k x := by
  funext c
  simp [sL, vp_updL]
/-- all rows but one are as they were -/
def mOff (μ μ' : mMem) (r i : Nat) : Prop := ∀ a b : Nat, ¬ (a = r ∧ b = i) → μ'.1 a b = μ.1 a b ∧ μ'.2 a b = μ.2 a b
theorem mOff_I (μ : mMem) (r i k : Nat) (x : Int32) : mOff μ (sI μ r i k x) r i := by
  intro a b h
  refine ⟨?_, rfl⟩
  funext c
  simp only [sI]
  rw [if_neg]
  exact fun q => h ⟨q.1, q.2.1⟩
theorem mOff_L (μ : mMem) (r i k : Nat) (x : Int64) : mOff μ (sL μ r i k x) r i := by
  intro a b h
  refine ⟨rfl, ?_⟩
  funext c
  simp only [sL]
  rw [if_neg]
  exact fun q => h ⟨q.1, q.2.1⟩
/-- what a cell of each role holds: f its ints, g its longs -/
def mE (cT : Nat → ClassId) (ad : Nat → Nat → Nat) (r i : Nat) (f : Nat → Int32) (g : Nat → Int64) : va_E := match r with
  | 0 => .inr (0, [.ref (ad 1 0), .int (f 1), .ref (ad 7 0), .ref (ad 10 0), .ref (ad 13 0)])
  | 1 => .inl (cT 3, 60, .inr (.inr (.inr (.inr (fun j => if f j = 0 then none else some (ad 2 j))))))
  | 2 => .inr (4, [.int (f 0), .int (f 1), .int (f 2), .ref (ad 3 (f 2).toNatClampNeg)])
  | 3 => .inr (1, [.int (f 0), .int (f 1), .int (f 2), .ref (ad 4 i), .ref (ad 5 i), .ref (ad 6 i)])
  | 4 => .inl (cT 0, 6, .inl f)
  | 5 => .inl (cT 0, 6, .inl f)
  | 6 => .inl (cT 1, 6, .inr (.inl g))
  | 7 => .inr (2, [.ref (ad 8 0), .ref (ad 9 0)])
  | 8 => .inl (cT 0, 3, .inl f)
  | 9 => .inl (cT 1, 3, .inr (.inl g))
  | 10 => .inl (cT 4, 12, .inr (.inr (.inr (.inr (fun j => if f j = 0 then none else some (ad 11 j))))))
  | 11 => .inr (3, [.int (f 0), .int (f 1), .long (g 2), .long (g 3), .ref (ad 12 i), .int (f 5), .int (f 6), .int (f 7), .int (f 8)])
  | 12 => .inl (cT 1, 5, .inr (.inl g))
  | 13 => .inr (5, [.ref (ad 14 0), .ref (ad 15 0), .ref (ad 16 0), .ref (ad 17 0), .int (f 4), .int (f 5), .int (f 6), .int (f 7), .int (f 8), .int (f 9)])
  | 14 => .inl (cT 0, 40, .inl f)
  | 15 => .inl (cT 0, 40, .inl f)
  | 16 => .inl (cT 0, 40, .inl f)
  | 17 => .inl (cT 1, 40, .inr (.inl g))
  | 20 => .inr (6, [.int (f 0), .int (f 1), .ref (ad 22 0), .ref (ad 23 0), .ref (ad 24 0), .ref (ad 25 0), .ref (ad 26 0), .ref (ad 27 0), .ref (ad 28 0), .ref (ad 29 0), .ref (ad 30 0), .ref (ad 31 0), .ref (ad 32 0), .ref (ad 33 0), .ref (ad 34 0), .ref (ad 35 0), .ref (ad 36 0), .ref (ad 37 0), .ref (ad 38 0), .ref (ad 39 0), .ref (ad 40 0), .ref (ad 41 0), .ref (ad 42 0), .ref (ad 43 0), .ref (ad 44 0), .ref (ad 45 0), .ref (ad 46 0), .ref (ad 47 0), .int (f 28), .long (g 29)])
  | 22 => .inl (cT 0, 60, .inl f)
  | 23 => .inl (cT 0, 60, .inl f)
  | 24 => .inl (cT 0, 60, .inl f)
  | 25 => .inl (cT 0, 60, .inl f)
  | 26 => .inl (cT 0, 60, .inl f)
  | 27 => .inl (cT 0, 60, .inl f)
  | 28 => .inl (cT 0, 360, .inl f)
  | 29 => .inl (cT 0, 360, .inl f)
  | 30 => .inl (cT 1, 360, .inr (.inl g))
  | 31 => .inl (cT 0, 3, .inl f)
  | 32 => .inl (cT 0, 90, .inl f)
  | 33 => .inl (cT 2, 12, .inl f)
  | 34 => .inl (cT 0, 12, .inl f)
  | 35 => .inl (cT 0, 12, .inl f)
  | 36 => .inl (cT 0, 12, .inl f)
  | 37 => .inl (cT 0, 12, .inl f)
  | 38 => .inl (cT 0, 12, .inl f)
  | 39 => .inl (cT 0, 12, .inl f)
  | 40 => .inl (cT 1, 12, .inr (.inl g))
  | 41 => .inl (cT 1, 12, .inr (.inl g))
  | 42 => .inl (cT 1, 60, .inr (.inl g))
  | 43 => .inl (cT 0, 40, .inl f)
  | 44 => .inl (cT 0, 40, .inl f)
  | 45 => .inl (cT 0, 40, .inl f)
  | 46 => .inl (cT 0, 5, .inl f)
  | 47 => .inl (cT 1, 40, .inr (.inl g))
  | _ => .inl (cT 0, 0, .inl f)
def mSing : List Nat := [0, 1, 7, 8, 9, 10, 13, 14, 15, 16, 17, 20, 22, 23, 24, 25, 26, 27, 28, 29, 30, 31, 32, 33, 34, 35, 36, 37, 38, 39, 40, 41, 42, 43, 44, 45, 46, 47]
def mK (τ : mTau) (μ : mMem) : Prop := (∀ r ∈ mSing, τ.2 r 0) ∧ (∀ j, ¬ μ.1 1 0 j = 0 → τ.2 2 j) ∧ (∀ j, ¬ μ.1 10 0 j = 0 → τ.2 11 j) ∧ (∀ i, τ.2 2 i → τ.2 3 (μ.1 2 i 2).toNatClampNeg) ∧ (∀ i, τ.2 3 i → τ.2 4 i ∧ τ.2 5 i ∧ τ.2 6 i) ∧ (∀ i, τ.2 11 i → τ.2 12 i)
theorem mK_I {τ : mTau} {μ : mMem} {r i k : Nat} {x : Int32} (h : mK τ μ) (h1 : r ≠ 1) (h2 : r ≠ 2) (h3 : r ≠ 10) : mK τ (sI μ r i k x) := by
  have e1 : (sI μ r i k x).1 1 = μ.1 1 := by funext a b; simp only [sI]; rw [if_neg]; exact fun q => h1 q.1.symm
  have e2 : (sI μ r i k x).1 2 = μ.1 2 := by funext a b; simp only [sI]; rw [if_neg]; exact fun q => h2 q.1.symm
  have e3 : (sI μ r i k x).1 10 = μ.1 10 := by funext a b; simp only [sI]; rw [if_neg]; exact fun q => h3 q.1.symm
  unfold mK at h ⊢
  rw [e1, e2, e3]
  exact h
theorem mK_L {τ : mTau} {μ : mMem} {r i k : Nat} {x : Int64} (h : mK τ μ) : mK τ (sL μ r i k x) := h
/-- the heap holds the memory: below lo nothing has changed; the live cells are apart, at lo and above -/
def mw (G : mG) (τ : mTau) (μ : mMem) (H : Heap) (locs : List Loc) : Prop :=
  G.2.2.1 ≤ H.size ∧ (∀ q : Nat, q < G.2.2.1 → H[q]? = G.2.2.2[q]?) ∧ (∀ q ∈ locs, G.2.2.1 ≤ q.base) ∧
  (∀ r i : Nat, τ.2 r i → G.2.2.1 ≤ τ.1 r i ∧ va_at G.1 vwCl (τ.1 r i, mE G.2.1 τ.1 r i (μ.1 r i) (μ.2 r i)) H) ∧
  (∀ r i r' i' : Nat, τ.2 r i → τ.2 r' i' → τ.1 r i = τ.1 r' i' → r = r' ∧ i = i') ∧ mK τ μ
theorem mw.at {G : mG} {τ : mTau} {μ : mMem} {H : Heap} {locs : List Loc} (h : mw G τ μ H locs) {r i : Nat} (hl : τ.2 r i) {e : va_E} (he : mE G.2.1 τ.1 r i (μ.1 r i) (μ.2 r i) = e) : va_at G.1 vwCl (τ.1 r i, e) H := by
  subst he
  exact (h.2.2.2.1 r i hl).2
theorem mw.end {G : mG} {τ : mTau} {μ : mMem} {H : Heap} {locs : List Loc} (h : mw G τ μ H locs) {H' : Heap} (e : H' = H) : mw G τ μ H' [] := by
  subst e
  exact ⟨h.1, h.2.1, (fun _ h => by cases h), h.2.2.2⟩
theorem mw.k {G : mG} {τ : mTau} {μ : mMem} {H : Heap} {locs : List Loc} (h : mw G τ μ H locs) : mK τ μ := h.2.2.2.2.2
theorem mP1 {D : va_G} {cl : List vw_C} {a : Nat} {e : va_E} {H : Heap} (h : va_at D cl (a, e) H) : va_P D cl [(a, e)] H := by
  intro k q hq
  match k, hq with
  | 0, hq => cases hq; exact h
  | k + 1, hq => simp at hq
theorem mw.set {G : mG} {τ : mTau} {μ μ' : mMem} {H H1 : Heap} {locs : List Loc} (h : mw G τ μ H locs) {r i k : Nat} (hl : τ.2 r i) (ho : mOff μ μ' r i) (hk : mK τ μ') (he : va_at G.1 vwCl (τ.1 r i, mE G.2.1 τ.1 r i (μ'.1 r i) (μ'.2 r i)) H1) (z : H1.size = H.size) (oq : ∀ q : Nat, q ≠ τ.1 r i → H1[q]? = H[q]?) : mw G τ μ' H1 (locs ++ [⟨τ.1 r i, k⟩]) := by
  obtain ⟨h1, h2, h3, h4, h5, -⟩ := h
  have hlo := (h4 r i hl).1
  refine ⟨by rw [z]; exact h1, fun q hq => ?_, fun q hq => ?_, fun a b hab => ⟨(h4 a b hab).1, ?_⟩, h5, hk⟩
  · rw [oq q (by omega)]
    exact h2 q hq
  · rcases List.mem_append.mp hq with h | h
    · exact h3 q h
    · rw [List.mem_singleton.mp h]
      exact hlo
  · by_cases hc : a = r ∧ b = i
    · obtain ⟨rfl, rfl⟩ := hc
      exact he
    · obtain ⟨e1, e2⟩ := ho a b hc
      rw [e1, e2]
      exact (h4 a b hab).2.kept (oq _ (fun e => hc (h5 a b r i hab hl e)))
end
section
def tLies : Nat → Int32 := fun j => match j with
  | 0 => -1
  | 1 => 0
  | 2 => 0
  | 3 => 1
  | 4 => 3
  | 5 => 3
  | 6 => 0
  | 7 => 6
  | _ => 0
def tMost : Nat → Int32 := fun j => match j with
  | 0 => 30
  | _ => 20
def nwF : List (String × Nat × String × String × String × String) := [(R_C, 7, R_X, "MOST_COLLECTED", "[I", R_X), (R_X, 57, R_T, "kind", "I", R_X), (R_X, 64, R_T, "build", "LBuildCounter$Build;", R_X), (R_X, 72, R_T, "house", "I", R_X), (R_X, 79, R_T, "in", "I", R_X), (R_X, 115, R_P, "answers", "I", R_X), (R_X, 128, R_P, "kind", "I", R_X), (R_X, 139, R_P, "wants", "I", R_X), (R_X, 189, R_B, "turnsLeft", "I", R_X), (R_X, 192, R_B, "waiting", "I", R_X), (R_X, 198, R_O, "fates", "[I", R_X), (R_X, 201, R_O, "numbers", "[I", R_X), (R_X, 204, R_O, "calls", "[I", R_X), (R_X, 207, R_O, "values", "[J", R_X), (R_X, 211, R_O, "inAll", "I", R_X), (R_X, 214, R_O, "answered", "I", R_X), (R_X, 217, R_O, "failed", "I", R_X), (R_X, 220, R_O, "refused", "I", R_X), (R_X, 223, R_O, "cameToWait", "I", R_X), (R_X, 229, R_P, "low", "J", R_X), (R_X, 233, R_P, "high", "J", R_X), (R_X, 248, R_B, "calls", "[I", R_X), (R_X, 249, R_B, "numbers", "[I", R_X), (R_X, 250, R_B, "ws", "[J", R_X), (R_X, 122, R_P, "failureSort", "I", R_X), (R_X, 125, R_P, "failuresDue", "I", R_X)]
def nwM : List (String × Nat × MethodName × String) := [(R_X, 45, y_B_init, R_X), (R_X, 106, y_P_init, R_X), (R_C, 22, y_X_isSort, R_X)]
theorem kn0 : (R_C, 7, R_X, "MOST_COLLECTED", "[I", R_X) ∈ nwF := List.mem_of_getElem? (i := 0) rfl
theorem kn4 : (R_X, 57, R_T, "kind", "I", R_X) ∈ nwF := List.mem_of_getElem? (i := 1) rfl
theorem kn5 : (R_X, 64, R_T, "build", "LBuildCounter$Build;", R_X) ∈ nwF := List.mem_of_getElem? (i := 2) rfl
theorem kn6 : (R_X, 72, R_T, "house", "I", R_X) ∈ nwF := List.mem_of_getElem? (i := 3) rfl
theorem kn7 : (R_X, 79, R_T, "in", "I", R_X) ∈ nwF := List.mem_of_getElem? (i := 4) rfl
theorem kn8 : (R_X, 115, R_P, "answers", "I", R_X) ∈ nwF := List.mem_of_getElem? (i := 5) rfl
theorem kn9 : (R_X, 128, R_P, "kind", "I", R_X) ∈ nwF := List.mem_of_getElem? (i := 6) rfl
theorem kn10 : (R_X, 139, R_P, "wants", "I", R_X) ∈ nwF := List.mem_of_getElem? (i := 7) rfl
theorem kn11 : (R_X, 189, R_B, "turnsLeft", "I", R_X) ∈ nwF := List.mem_of_getElem? (i := 8) rfl
theorem kn12 : (R_X, 192, R_B, "waiting", "I", R_X) ∈ nwF := List.mem_of_getElem? (i := 9) rfl
theorem kn13 : (R_X, 198, R_O, "fates", "[I", R_X) ∈ nwF := List.mem_of_getElem? (i := 10) rfl
theorem kn14 : (R_X, 201, R_O, "numbers", "[I", R_X) ∈ nwF := List.mem_of_getElem? (i := 11) rfl
theorem kn15 : (R_X, 204, R_O, "calls", "[I", R_X) ∈ nwF := List.mem_of_getElem? (i := 12) rfl
theorem kn16 : (R_X, 207, R_O, "values", "[J", R_X) ∈ nwF := List.mem_of_getElem? (i := 13) rfl
theorem kn17 : (R_X, 211, R_O, "inAll", "I", R_X) ∈ nwF := List.mem_of_getElem? (i := 14) rfl
theorem kn18 : (R_X, 214, R_O, "answered", "I", R_X) ∈ nwF := List.mem_of_getElem? (i := 15) rfl
theorem kn19 : (R_X, 217, R_O, "failed", "I", R_X) ∈ nwF := List.mem_of_getElem? (i := 16) rfl
theorem kn20 : (R_X, 220, R_O, "refused", "I", R_X) ∈ nwF := List.mem_of_getElem? (i := 17) rfl
theorem kn21 : (R_X, 223, R_O, "cameToWait", "I", R_X) ∈ nwF := List.mem_of_getElem? (i := 18) rfl
theorem kn22 : (R_X, 229, R_P, "low", "J", R_X) ∈ nwF := List.mem_of_getElem? (i := 19) rfl
theorem kn23 : (R_X, 233, R_P, "high", "J", R_X) ∈ nwF := List.mem_of_getElem? (i := 20) rfl
theorem kn24 : (R_X, 248, R_B, "calls", "[I", R_X) ∈ nwF := List.mem_of_getElem? (i := 21) rfl
theorem kn25 : (R_X, 249, R_B, "numbers", "[I", R_X) ∈ nwF := List.mem_of_getElem? (i := 22) rfl
theorem kn26 : (R_X, 250, R_B, "ws", "[J", R_X) ∈ nwF := List.mem_of_getElem? (i := 23) rfl
theorem kn27 : (R_X, 122, R_P, "failureSort", "I", R_X) ∈ nwF := List.mem_of_getElem? (i := 24) rfl
theorem kn28 : (R_X, 125, R_P, "failuresDue", "I", R_X) ∈ nwF := List.mem_of_getElem? (i := 25) rfl
theorem kn1 : (R_X, 45, y_B_init, R_X) ∈ nwM := List.mem_of_getElem? (i := 0) rfl
theorem kn2 : (R_X, 106, y_P_init, R_X) ∈ nwM := List.mem_of_getElem? (i := 1) rfl
theorem kn3 : (R_C, 22, y_X_isSort, R_X) ∈ nwM := List.mem_of_getElem? (i := 2) rfl
/-! What the tables say, and the rows of the machine over the one memory. -/
def gG : List Cond := lw_tbl.filter goodWord
theorem gG_in {w : Cond} (h : w ∈ lw_tbl) (hg : goodWord w = true) : w ∈ gG := List.mem_filter.mpr ⟨h, hg⟩
theorem gG_good {w0 w1 : Cond} (h : w1 ∈ gG) : GoodIn (w0 :: gG) (w1 :: gG) := by
  intro w hw
  rcases List.mem_cons.mp hw with e | hw
  · subst e
    exact ⟨List.mem_cons_of_mem _ h, good_of_word (List.mem_filter.mp h).2⟩
  · exact ⟨List.mem_cons_of_mem _ hw, good_of_word (List.mem_filter.mp hw).2⟩
theorem gG_self {w1 : Cond} (h : w1 ∈ gG) : GoodIn gG (w1 :: gG) := by
  intro w hw
  rcases List.mem_cons.mp hw with e | hw
  · subst e
    exact ⟨h, good_of_word (List.mem_filter.mp h).2⟩
  · exact ⟨hw, good_of_word (List.mem_filter.mp hw).2⟩
abbrev mTy (cT : Nat → ClassId) : List (ClassId × FieldType) := [(cT 0, .int), (cT 1, .long), (cT 2, .boolean), (cT 3, .object R_T), (cT 4, .object R_P)]
/-- a static table of ints of the class, at its place below lo -/
def mTab (G : mG) (n : String) (N : Nat) (f : Nat → Int32) (U : State) : Prop := ∃ t : Nat, va_Z R_X n "[I" (.ref t) (fun q => G.2.2.1 ≤ q) U G.2.2.2 ∧ va_T .int t N (fun j => .int (f j)) (fun q => G.2.2.1 ≤ q) U G.2.2.2
theorem mTab.moved {G : mG} {n : String} {N : Nat} {f : Nat → Int32} {u U : State} (hvm : u.vm.Alike U.vm) (h : mTab G n N f u) : mTab G n N f U := by
  obtain ⟨t, h1, h2⟩ := h
  exact ⟨t, h1.moved hvm, h2.moved hvm⟩
def mT (G : mG) (U : State) : Prop := va_K G.1 vwCl (mTy G.2.1) U ∧ (∀ q ∈ nwF, va_Nw (.fieldLinkNest q.1 q.2.1 q.2.2.1 q.2.2.2.1 q.2.2.2.2.1 q.2.2.2.2.2) U) ∧ (∀ q ∈ nwM, va_Nw (.methodLinkNest q.1 q.2.1 q.2.2.1 q.2.2.2) U) ∧ mTab G "LIES_IN" 9 tLies U ∧ mTab G "MOST_COLLECTED" 3 tMost U
theorem mT.warm {G : mG} {s U : State} (hW : s.WarmedH U.vm) (h : mT G s) : mT G U := ⟨va_K.moved hW.alike h.1, fun q hq => va_Nw.warmF hW (h.2.1 q hq), fun q hq => va_Nw.warmM hW (h.2.2.1 q hq), h.2.2.2.1.moved hW.alike, h.2.2.2.2.moved hW.alike⟩
theorem mT.same {G : mG} {s U : State} (hvm : s.vm = U.vm) (h : mT G s) : mT G U := ⟨va_K.moved (by rw [hvm]; exact Vm.Alike.refl U.vm) h.1, fun q hq => va_Nw.same rfl hvm (h.2.1 q hq), fun q hq => va_Nw.same rfl hvm (h.2.2.1 q hq), h.2.2.2.1.moved (by rw [hvm]; exact Vm.Alike.refl U.vm), h.2.2.2.2.moved (by rw [hvm]; exact Vm.Alike.refl U.vm)⟩
/-- a method's start and end -/
def mPc (G : mG) (τ : mTau) (μ : mMem) (av : List Value) : Array Value → State → Prop := fun v U => v = av.toArray ∧ mT G U ∧ mw G τ μ U.heap []
def mQ (G : mG) (τ : mTau) (v : Option Value) (μ : mMem) : Array Value → State → Outcome → State → Prop := fun _ _ oc t => oc = .returned v ∧ mw G τ μ t.heap []
/-- an answer that is a cell of role rr, or null -/
def mQo (G : mG) (τ : mTau) (rr : Nat) (o : Option Nat) (μ : mMem) : Array Value → State → Outcome → State → Prop := fun _ _ oc t => oc = .returned (some (va_rf (o.map (τ.1 rr)))) ∧ (∀ i, o = some i → τ.2 rr i) ∧ mw G τ μ t.heap []
theorem mPc.blind {G : mG} {τ : mTau} {μ : mMem} {av : List Value} : FrameBlind (mPc G τ μ av) := fun a U g mk q => ⟨q.1, q.2.1.same rfl, q.2.2⟩
section ROWS
variable {p : Program} {l : Launch} {e : Env} {R : Room} {s : State} {m : MethodId} {args : Array Value} {below : List Frame} {meth : Method} {c : Code} {H : Heap} {locs : List Loc} {cells slots : Nat} {Q : State → Prop}
variable {cc : ByteArray} {pc : Nat} {ls : Array Slot} {rest : List Value} {G : mG} {τ : mTau} {μ : mMem}
theorem mPc.pre {av : List Value} (hT : mT G s) (hM : mw G τ μ H locs) : ∀ U : State, U.heap = H → s.WarmedH U.vm → mPc G τ μ av av.toArray U := fun U hU hW => ⟨rfl, hT.warm hW, hM.end hU⟩
theorem mw_get (hx : p.tables.exec = Jvm.exec) (hb : c.code = cc) {own C : String} {T : u_T} {N ci index : Nat} (hts : ∀ w ∈ gG, w.before args s = true) (hin : ∀ w ∈ u_ws C T N, w ∈ gG) (hown : s.vm.findClass own = some m.cls) (hT : mT G s) (hM : mw G τ μ H locs) {r i : Nat} {fs : List Value} (hl : τ.2 r i) (he : mE G.2.1 τ.1 r i (μ.1 r i) (μ.2 r i) = .inr (ci, fs)) (hc : vwCl[ci]? = some (C, T, N)) (k : Nat) (hk : k < N) (hlink : Cond.fieldLink own index (T k).1 (T k).2.1 (T k).2.2.1 ∈ gG) {v : Value} (hv : fs[k]? = some v) (hdg : decode cc pc = .ok (.getfield index, 3))
    (kk : W p l e R s m args below meth c H locs cells slots Q (F0 m (pc + 3) ls (v :: rest))) : W p l e R s m args below meth c H locs cells slots Q (F0 m pc ls (.ref (τ.1 r i) :: rest)) :=
  va_get hx hb hts hin hown hT.1 (mP1 (hM.at hl he)) 0 rfl hc k hk (hts _ hlink) (fun _ h9 => h9) hv hdg kk
theorem mw_getN (hx : p.tables.exec = Jvm.exec) (hb : c.code = cc) {own C host : String} {T : u_T} {N ci index : Nat} (hts : ∀ w ∈ gG, w.before args s = true) (hin : ∀ w ∈ u_ws C T N, w ∈ gG) (hown : s.vm.findClass own = some m.cls) (hT : mT G s) (hM : mw G τ μ H locs) {r i : Nat} {fs : List Value} (hl : τ.2 r i) (he : mE G.2.1 τ.1 r i (μ.1 r i) (μ.2 r i) = .inr (ci, fs)) (hc : vwCl[ci]? = some (C, T, N)) (k : Nat) (hk : k < N) (hlink : (own, index, (T k).1, (T k).2.1, (T k).2.2.1, host) ∈ nwF) {v : Value} (hv : fs[k]? = some v) (hdg : decode cc pc = .ok (.getfield index, 3))
    (kk : W p l e R s m args below meth c H locs cells slots Q (F0 m (pc + 3) ls (v :: rest))) : W p l e R s m args below meth c H locs cells slots Q (F0 m pc ls (.ref (τ.1 r i) :: rest)) :=
  va_getN hx hb hts hin hown hT.1 (mP1 (hM.at hl he)) 0 rfl hc k hk (va_Nw.use rfl (hT.2.1 _ hlink)) (fun _ h9 => h9) hv hdg kk
theorem mw_put (hx : p.tables.exec = Jvm.exec) (hb : c.code = cc) {own C : String} {T : u_T} {N ci index : Nat} (hts : ∀ w ∈ gG, w.before args s = true) (hin : ∀ w ∈ u_ws C T N, w ∈ gG) (ty0 : Nat → FieldType) (hty : ∀ k, k < N → parseFieldDescriptor (T k).2.2.1 = some (ty0 k)) (hnm : ∀ a, a < N → ∀ b, b < N → a ≠ b → (T a).2.1 ≠ (T b).2.1) (hown : s.vm.findClass own = some m.cls) (hT : mT G s) (hM : mw G τ μ H locs) {r i : Nat} {fs : List Value} (hl : τ.2 r i) (he : mE G.2.1 τ.1 r i (μ.1 r i) (μ.2 r i) = .inr (ci, fs)) (hc : vwCl[ci]? = some (C, T, N)) (k : Nat) (hk : k < N) (hlink : Cond.fieldLink own index (T k).1 (T k).2.1 (T k).2.2.1 ∈ gG) (hfin : (T k).2.2.2 = false) {ty : FieldType} {v : Value} (hd : parseFieldDescriptor (T k).2.2.1 = some ty) (hn : narrow ty v = v) (hfit : fits ty v = true) (hlen : k < fs.length) (μ' : mMem) (ho : mOff μ μ' r i) (hk' : mK τ μ') (he' : mE G.2.1 τ.1 r i (μ'.1 r i) (μ'.2 r i) = .inr (ci, fs.set k v))
    (hdg : decode cc pc = .ok (.putfield index, 3)) (kk : ∀ (μ1 : mMem) (H1 : Heap) (locs1 : List Loc), μ1 = μ' → mw G τ μ1 H1 locs1 → W p l e R s m args below meth c H1 locs1 cells slots Q (F0 m (pc + 3) ls rest)) : W p l e R s m args below meth c H locs cells slots Q (F0 m pc ls (v :: .ref (τ.1 r i) :: rest)) := by
  have hap := va_apart (own := own) hts hin ty0 hty hnm hT.1 hc
  obtain ⟨r0, h1, cell, q1, q2, q3, q4⟩ := hM.at hl he
  have hr : r0 = (C, T, N) := Option.some.inj (h1.symm.trans hc)
  subst hr
  obtain ⟨hS, hfc, kC, hkC, hkind⟩ := hT.1.1 ci _ hc
  obtain ⟨cf, kf, fi, f, hi, hsl⟩ := hS k hk
  have hlay := hts _ (hin _ (u_in_lay hk))
  unfold u_lay at hlay
  rw [if_neg (by rw [hfin]; decide)] at hlay
  have hst := (u_facts hfc hkC (u_lays hts hin hk) hi).1
  have h6 := u_store hfc hkC hkind hlay hi hd hn hfit
  refine W.putK hx hb (f := f) ⟨hown, hts _ hlink, ⟨_, _, _, hi⟩, hst⟩ (by rw [q2]; exact h6) q1 q3 (by rw [hsl]; exact k2_hasslot (q4 k hk)) rfl rfl hdg fun H' e1 e2 e3 => ?_
  rw [hsl] at e1 ⊢
  refine kk μ' H' _ rfl (hM.set hl ho hk' ?_ e2 e3)
  rw [he']
  exact ⟨_, hc, t_OB.to (V := updV (vp_V fs) k v) ⟨_, e1, q2, q3, t_set q4 hap hk v⟩ (fun j _ => vp_updV_set hlen v j)⟩
theorem mw_putN (hx : p.tables.exec = Jvm.exec) (hb : c.code = cc) {own C host : String} {T : u_T} {N ci index : Nat} (hts : ∀ w ∈ gG, w.before args s = true) (hin : ∀ w ∈ u_ws C T N, w ∈ gG) (ty0 : Nat → FieldType) (hty : ∀ k, k < N → parseFieldDescriptor (T k).2.2.1 = some (ty0 k)) (hnm : ∀ a, a < N → ∀ b, b < N → a ≠ b → (T a).2.1 ≠ (T b).2.1) (hown : s.vm.findClass own = some m.cls) (hT : mT G s) (hM : mw G τ μ H locs) {r i : Nat} {fs : List Value} (hl : τ.2 r i) (he : mE G.2.1 τ.1 r i (μ.1 r i) (μ.2 r i) = .inr (ci, fs)) (hc : vwCl[ci]? = some (C, T, N)) (k : Nat) (hk : k < N) (hlink : (own, index, (T k).1, (T k).2.1, (T k).2.2.1, host) ∈ nwF) (hfin : (T k).2.2.2 = false) {ty : FieldType} {v : Value} (hd : parseFieldDescriptor (T k).2.2.1 = some ty) (hn : narrow ty v = v) (hfit : fits ty v = true) (hlen : k < fs.length) (μ' : mMem) (ho : mOff μ μ' r i) (hk' : mK τ μ') (he' : mE G.2.1 τ.1 r i (μ'.1 r i) (μ'.2 r i) = .inr (ci, fs.set k v))
    (hdg : decode cc pc = .ok (.putfield index, 3)) (kk : ∀ (μ1 : mMem) (H1 : Heap) (locs1 : List Loc), μ1 = μ' → mw G τ μ1 H1 locs1 → W p l e R s m args below meth c H1 locs1 cells slots Q (F0 m (pc + 3) ls rest)) : W p l e R s m args below meth c H locs cells slots Q (F0 m pc ls (v :: .ref (τ.1 r i) :: rest)) := by
  have hap := va_apart (own := own) hts hin ty0 hty hnm hT.1 hc
  obtain ⟨r0, h1, cell, q1, q2, q3, q4⟩ := hM.at hl he
  have hr : r0 = (C, T, N) := Option.some.inj (h1.symm.trans hc)
  subst hr
  obtain ⟨hS, hfc, kC, hkC, hkind⟩ := hT.1.1 ci _ hc
  obtain ⟨cf, kf, fi, f, hi, hsl⟩ := hS k hk
  have hlay := hts _ (hin _ (u_in_lay hk))
  unfold u_lay at hlay
  rw [if_neg (by rw [hfin]; decide)] at hlay
  have hst := (u_facts hfc hkC (u_lays hts hin hk) hi).1
  have h6 := u_store hfc hkC hkind hlay hi hd hn hfit
  refine va_WputK hx hb (f := f) hown (va_Nw.use rfl (hT.2.1 _ hlink)) hi hst (by rw [q2]; exact h6) q1 q3 (by rw [hsl]; exact k2_hasslot (q4 k hk)) rfl rfl hdg fun H' e1 e2 e3 => ?_
  rw [hsl] at e1 ⊢
  refine kk μ' H' _ rfl (hM.set hl ho hk' ?_ e2 e3)
  rw [he']
  exact ⟨_, hc, t_OB.to (V := updV (vp_V fs) k v) ⟨_, e1, q2, q3, t_set q4 hap hk v⟩ (fun j _ => vp_updV_set hlen v j)⟩
theorem mw_iald (hx : p.tables.exec = Jvm.exec) (hb : c.code = cc) (hT : mT G s) (hM : mw G τ μ H locs) {r i n : Nat} (hl : τ.2 r i) (he : mE G.2.1 τ.1 r i (μ.1 r i) (μ.2 r i) = .inl (G.2.1 0, n, .inl (μ.1 r i))) {j : Int32} (hin : vp_in j n) (hdg : decode cc pc = .ok (.iaload, 1))
    (kk : W p l e R s m args below meth c H locs cells slots Q (F0 m (pc + 1) ls (.int (μ.1 r i j.toNatClampNeg) :: rest))) : W p l e R s m args below meth c H locs cells slots Q (F0 m pc ls (.int j :: .ref (τ.1 r i) :: rest)) :=
  va_iald hx hb hT.1 (mP1 (hM.at hl he)) 0 0 rfl rfl hin hdg kk
theorem mw_zald (hx : p.tables.exec = Jvm.exec) (hb : c.code = cc) (hT : mT G s) (hM : mw G τ μ H locs) {r i n : Nat} (hl : τ.2 r i) (he : mE G.2.1 τ.1 r i (μ.1 r i) (μ.2 r i) = .inl (G.2.1 2, n, .inl (μ.1 r i))) {j : Int32} (hin : vp_in j n) (hdg : decode cc pc = .ok (.baload, 1))
    (kk : W p l e R s m args below meth c H locs cells slots Q (F0 m (pc + 1) ls (.int (μ.1 r i j.toNatClampNeg) :: rest))) : W p l e R s m args below meth c H locs cells slots Q (F0 m pc ls (.int j :: .ref (τ.1 r i) :: rest)) :=
  va_zald hx hb hT.1 (mP1 (hM.at hl he)) 0 2 rfl rfl hin hdg kk
theorem mw_lald (hx : p.tables.exec = Jvm.exec) (hb : c.code = cc) (hT : mT G s) (hM : mw G τ μ H locs) {r i n : Nat} (hl : τ.2 r i) (he : mE G.2.1 τ.1 r i (μ.1 r i) (μ.2 r i) = .inl (G.2.1 1, n, .inr (.inl (μ.2 r i)))) {j : Int32} (hin : vp_in j n) (hdg : decode cc pc = .ok (.laload, 1))
    (kk : W p l e R s m args below meth c H locs cells slots Q (F0 m (pc + 1) ls (.long (μ.2 r i j.toNatClampNeg) :: rest))) : W p l e R s m args below meth c H locs cells slots Q (F0 m pc ls (.int j :: .ref (τ.1 r i) :: rest)) :=
  va_lald hx hb hT.1 (mP1 (hM.at hl he)) 0 1 rfl rfl hin hdg kk
theorem mw_iast (hx : p.tables.exec = Jvm.exec) (hb : c.code = cc) (hT : mT G s) (hM : mw G τ μ H locs) {r i n : Nat} (hl : τ.2 r i) (h1 : r ≠ 1) (h2 : r ≠ 2) (h3 : r ≠ 10) (he : ∀ (f : Nat → Int32) (g : Nat → Int64), mE G.2.1 τ.1 r i f g = .inl (G.2.1 0, n, .inl f)) {j x : Int32} (hin : vp_in j n) (hdg : decode cc pc = .ok (.iastore, 1))
    (kk : ∀ (μ1 : mMem) (H1 : Heap) (locs1 : List Loc), μ1 = sI μ r i j.toNatClampNeg x → mw G τ μ1 H1 locs1 → W p l e R s m args below meth c H1 locs1 cells slots Q (F0 m (pc + 1) ls rest)) : W p l e R s m args below meth c H locs cells slots Q (F0 m pc ls (.int x :: .int j :: .ref (τ.1 r i) :: rest)) := by
  refine W.iast hx hb (hM.at hl (he _ _)) ((hT.1.2 0 _ rfl).1 n (fun j => .int (μ.1 r i j))) (fun q => by cases q) (by show ¬ (j < 0 ∨ (arrV _ _ _).slots.size ≤ _); rw [arrV_size]; exact hin) rfl rfl hdg fun H1 e z oq => ?_
  refine kk _ H1 _ rfl (hM.set hl (mOff_I _ _ _ _ _) (mK_I hM.k h1 h2 h3) ?_ z oq)
  rw [he, sI_row]
  show H1[τ.1 r i]? = some (vp_cell _ _)
  rw [e]
  rw [vp_cell_i, vp_cell_i, arrV_store]
  congr 2
  funext q
  by_cases hq : q = j.toNatClampNeg
  · subst hq
    simp [updV, upd]
  · simp [updV, upd, hq]
theorem mw_zast (hx : p.tables.exec = Jvm.exec) (hb : c.code = cc) (hT : mT G s) (hM : mw G τ μ H locs) {r i n : Nat} (hl : τ.2 r i) (h1 : r ≠ 1) (h2 : r ≠ 2) (h3 : r ≠ 10) (he : ∀ (f : Nat → Int32) (g : Nat → Int64), mE G.2.1 τ.1 r i f g = .inl (G.2.1 2, n, .inl f)) {j x : Int32} (hnx : narrow .boolean (.int x) = .int x) (hin : vp_in j n) (hdg : decode cc pc = .ok (.bastore, 1))
    (kk : ∀ (μ1 : mMem) (H1 : Heap) (locs1 : List Loc), μ1 = sI μ r i j.toNatClampNeg x → mw G τ μ1 H1 locs1 → W p l e R s m args below meth c H1 locs1 cells slots Q (F0 m (pc + 1) ls rest)) : W p l e R s m args below meth c H locs cells slots Q (F0 m pc ls (.int x :: .int j :: .ref (τ.1 r i) :: rest)) := by
  refine W.zast hx hb (hM.at hl (he _ _)) ((hT.1.2 2 _ rfl).1 n (fun j => .int (μ.1 r i j))) (fun q => by cases q) (by show ¬ (j < 0 ∨ (arrV _ _ _).slots.size ≤ _); rw [arrV_size]; exact hin) rfl rfl hdg fun H1 e z oq => ?_
  refine kk _ H1 _ rfl (hM.set hl (mOff_I _ _ _ _ _) (mK_I hM.k h1 h2 h3) ?_ z oq)
  rw [he, sI_row]
  show H1[τ.1 r i]? = some (vp_cell _ _)
  rw [e, hnx]
  rw [vp_cell_i, vp_cell_i, arrV_store]
  congr 2
  funext q
  by_cases hq : q = j.toNatClampNeg
  · subst hq
    simp [updV, upd]
  · simp [updV, upd, hq]
theorem mw_last (hx : p.tables.exec = Jvm.exec) (hb : c.code = cc) (hT : mT G s) (hM : mw G τ μ H locs) {r i n : Nat} (hl : τ.2 r i) (he : ∀ (f : Nat → Int32) (g : Nat → Int64), mE G.2.1 τ.1 r i f g = .inl (G.2.1 1, n, .inr (.inl g))) {j : Int32} {x : Int64} (hin : vp_in j n) (hdg : decode cc pc = .ok (.lastore, 1))
    (kk : ∀ (μ1 : mMem) (H1 : Heap) (locs1 : List Loc), μ1 = sL μ r i j.toNatClampNeg x → mw G τ μ1 H1 locs1 → W p l e R s m args below meth c H1 locs1 cells slots Q (F0 m (pc + 1) ls rest)) : W p l e R s m args below meth c H locs cells slots Q (F0 m pc ls (.long x :: .int j :: .ref (τ.1 r i) :: rest)) := by
  refine W.last hx hb (hM.at hl (he _ _)) ((hT.1.2 1 _ rfl).1 n (fun j => .long (μ.2 r i j))) (fun q => by cases q) (by show ¬ (j < 0 ∨ (arrV _ _ _).slots.size ≤ _); rw [arrV_size]; exact hin) rfl rfl hdg fun H1 e z oq => ?_
  refine kk _ H1 _ rfl (hM.set hl (mOff_L _ _ _ _ _) (mK_L hM.k) ?_ z oq)
  rw [he, sL_row]
  show H1[τ.1 r i]? = some (vp_cell _ _)
  rw [e]
  rw [vp_cell_l, vp_cell_l, arrV_store]
  congr 2
  funext q
  by_cases hq : q = j.toNatClampNeg
  · subst hq
    simp [updV, vp_updL]
  · simp [updV, vp_updL, hq]
theorem mw_call {v : Option Value} {μ' : mMem} {st0 : List Value} {a : Array Value} {mc ms : Nat} (hM : mw G τ μ H locs) (hr : va_Run p l e R s m args below meth c H locs cells slots mc ms (F0 m pc ls st0) rest (mQ G τ v μ' a) (fun q => G.2.2.1 ≤ q))
    (kk : ∀ (H1 : Heap) (locs1 : List Loc), mw G τ μ' H1 locs1 → W p l e R s m args below meth c H1 locs1 (cells + mc) (slots + ms) Q (F0 m (pc + 3) ls (v.toList ++ rest))) : W p l e R s m args below meth c H locs cells slots Q (F0 m pc ls st0) := by
  intro T hT X
  obtain ⟨v1, st₀, t, T', L, h0, X', hL, e1, e2, ⟨hv, hm⟩, st⟩ := hr T hT X
  cases hv
  obtain ⟨t2, a1, b1⟩ := kk T'.heap (locs ++ L) ⟨by rw [e1]; exact hm.1, by rw [e1]; exact hm.2.1, fun q hq => by
    rcases List.mem_append.mp hq with h | h
    · exact hM.2.2.1 q h
    · exact hL q h, by rw [e1]; exact hm.2.2.2⟩ T' rfl X'
  exact ⟨t2, st t2 a1, b1⟩
theorem mw_callo {rr : Nat} {o : Option Nat} {μ' : mMem} {st0 : List Value} {a : Array Value} {mc ms : Nat} (hM : mw G τ μ H locs) (hr : va_Run p l e R s m args below meth c H locs cells slots mc ms (F0 m pc ls st0) rest (mQo G τ rr o μ' a) (fun q => G.2.2.1 ≤ q))
    (kn : ∀ (H1 : Heap) (locs1 : List Loc), mw G τ μ' H1 locs1 → o = none → W p l e R s m args below meth c H1 locs1 (cells + mc) (slots + ms) Q (F0 m (pc + 3) ls (.null :: rest)))
    (ks : ∀ (H1 : Heap) (locs1 : List Loc), mw G τ μ' H1 locs1 → ∀ i : Nat, o = some i → τ.2 rr i → W p l e R s m args below meth c H1 locs1 (cells + mc) (slots + ms) Q (F0 m (pc + 3) ls (.ref (τ.1 rr i) :: rest))) : W p l e R s m args below meth c H locs cells slots Q (F0 m pc ls st0) := by
  intro T hT X
  obtain ⟨v1, st₀, t, T', L, h0, X', hL, e1, e2, ⟨hv, hlv, hm⟩, st⟩ := hr T hT X
  cases hv
  have hm' : mw G τ μ' T'.heap (locs ++ L) := ⟨by rw [e1]; exact hm.1, by rw [e1]; exact hm.2.1, fun q hq => by
    rcases List.mem_append.mp hq with h | h
    · exact hM.2.2.1 q h
    · exact hL q h, by rw [e1]; exact hm.2.2.2⟩
  cases o with
  | none =>
    obtain ⟨t2, a1, b1⟩ := kn T'.heap (locs ++ L) hm' rfl T' rfl X'
    exact ⟨t2, st t2 a1, b1⟩
  | some i =>
    obtain ⟨t2, a1, b1⟩ := ks T'.heap (locs ++ L) hm' i rfl (hlv i rfl) T' rfl X'
    exact ⟨t2, st t2 a1, b1⟩
theorem mw_recv (hT : mT G s) (hM : mw G τ μ H locs) {r i ci : Nat} {q : vw_C} {fs : List Value} (hl : τ.2 r i) (he : mE G.2.1 τ.1 r i (μ.1 r i) (μ.2 r i) = .inr (ci, fs)) (hc : vwCl[ci]? = some q) : ∃ cell : Cell, H[τ.1 r i]? = some cell ∧ cell.vm.isStatics = false ∧ s.vm.findClass q.1 = some cell.cls :=
  va_recv hT.1 (mP1 (hM.at hl he)) hc (q0 := 0) rfl
/-- a static table is read -/
theorem mw_tget (hx : p.tables.exec = Jvm.exec) (hb : c.code = cc) {own n : String} {N index : Nat} {f : Nat → Int32} (hZ : mTab G n N f s) (hlo : ∀ q : Nat, q < G.2.2.1 → H[q]? = G.2.2.2[q]?) (hts : ∀ w ∈ gG, w.before args s = true) (hown : s.vm.findClass own = some m.cls) (hlink : Cond.fieldLink own index R_X n "[I" ∈ gG) (hdg : decode cc pc = .ok (.getstatic index, 3))
    (kk : ∀ t : Nat, va_T .int t N (fun j => .int (f j)) (fun q => G.2.2.1 ≤ q) s G.2.2.2 → W p l e R s m args below meth c H locs cells slots Q (F0 m (pc + 3) ls (.ref t :: rest))) : W p l e R s m args below meth c H locs cells slots Q (F0 m pc ls rest) := by
  obtain ⟨t, ⟨cf, kf, fi, f, a, cell, h1, h2, h3, h4, h5, h6, h7, h8⟩, hT⟩ := hZ
  exact W.gets hx hb hown (hts _ hlink) h1 h2 h3 h4 (by rw [hlo a (Nat.not_le.mp h8)]; exact h5) (fun e => by rw [e] at h6; cases h6) h7 rfl hdg (kk t hT)
theorem mw_tgetN (hx : p.tables.exec = Jvm.exec) (hb : c.code = cc) {own n host : String} {N index : Nat} {f : Nat → Int32} (hZ : mTab G n N f s) (hT : mT G s) (hlo : ∀ q : Nat, q < G.2.2.1 → H[q]? = G.2.2.2[q]?) (hown : s.vm.findClass own = some m.cls) (hlink : (own, index, R_X, n, "[I", host) ∈ nwF) (hdg : decode cc pc = .ok (.getstatic index, 3))
    (kk : ∀ t : Nat, va_T .int t N (fun j => .int (f j)) (fun q => G.2.2.1 ≤ q) s G.2.2.2 → W p l e R s m args below meth c H locs cells slots Q (F0 m (pc + 3) ls (.ref t :: rest))) : W p l e R s m args below meth c H locs cells slots Q (F0 m pc ls rest) := by
  obtain ⟨t, ⟨cf, kf, fi, f, a, cell, h1, h2, h3, h4, h5, h6, h7, h8⟩, hT2⟩ := hZ
  exact va_WgetsN hx hb hown (va_Nw.use rfl (hT.2.1 _ hlink)) h1 h2 h3 h4 (by rw [hlo a (Nat.not_le.mp h8)]; exact h5) (fun e => by rw [e] at h6; cases h6) h7 rfl hdg (kk t hT2)
theorem mw_tald (hx : p.tables.exec = Jvm.exec) (hb : c.code = cc) {t N : Nat} {f : Nat → Int32} (hT : va_T .int t N (fun j => .int (f j)) (fun q => G.2.2.1 ≤ q) s G.2.2.2) (hlo : ∀ q : Nat, q < G.2.2.1 → H[q]? = G.2.2.2[q]?) {i : Int32} (hin : vp_in i N) (hdg : decode cc pc = .ok (.iaload, 1))
    (kk : W p l e R s m args below meth c H locs cells slots Q (F0 m (pc + 1) ls (.int (f i.toNatClampNeg) :: rest))) : W p l e R s m args below meth c H locs cells slots Q (F0 m pc ls (.int i :: .ref t :: rest)) := by
  obtain ⟨cell, h1, h2, h3, h4, h5, h6, h7⟩ := hT
  have hlt : i.toNatClampNeg < N := Nat.not_le.mp fun q => hin (Or.inr q)
  have hin' : ¬ (i < 0 ∨ cell.slots.size ≤ i.toNatClampNeg) := by
    intro q
    rcases q with q | q
    · exact hin (Or.inl q)
    · omega
  exact W.iald (v := .int (f i.toNatClampNeg)) hx hb (by rw [hlo t (Nat.not_le.mp h7)]; exact h1) h2 h3 hin' (h6 _ hlt) rfl rfl hdg kk
theorem mw_tlen (hx : p.tables.exec = Jvm.exec) (hb : c.code = cc) {t N : Nat} {f : Nat → Value} (hT : va_T .int t N f (fun q => G.2.2.1 ≤ q) s G.2.2.2) (hlo : ∀ q : Nat, q < G.2.2.1 → H[q]? = G.2.2.2[q]?) {v : Int32} (hv : Int32.ofNat N = v) (hdg : decode cc pc = .ok (.arraylength, 1))
    (kk : W p l e R s m args below meth c H locs cells slots Q (F0 m (pc + 1) ls (.int v :: rest))) : W p l e R s m args below meth c H locs cells slots Q (F0 m pc ls (.ref t :: rest)) := by
  subst hv
  obtain ⟨cell, h1, h2, h3, h4, h5, h6, h7⟩ := hT
  exact W.alen (n := Int32.ofNat N) hx hb (by rw [hlo t (Nat.not_le.mp h7)]; exact h1) h2 h5 rfl rfl hdg kk
end ROWS
theorem vin (N : Nat) {x b : Int32} (hb : b.toInt = N) (h0 : ¬ x < 0) (h1 : ¬ b ≤ x) : vp_in x N := by
  rw [vp_in_iff]
  have h2 : ¬ x.toInt < 0 := fun h => h0 (Int32.lt_iff_toInt_lt.mpr h)
  have h3 : ¬ b.toInt ≤ x.toInt := fun h => h1 (Int32.le_iff_toInt_le.mpr h)
  omega
section REFS
variable {p : Program} {l : Launch} {e : Env} {R : Room} {s : State} {m : MethodId} {args : Array Value} {below : List Frame} {meth : Method} {c : Code} {H : Heap} {locs : List Loc} {cells slots : Nat} {Q : State → Prop}
variable {cc : ByteArray} {pc : Nat} {ls : Array Slot} {rest : List Value} {G : mG} {τ : mTau} {μ : mMem}
theorem mw_aald (hx : p.tables.exec = Jvm.exec) (hb : c.code = cc) (hT : mT G s) (hM : mw G τ μ H locs) {r i rr n tt : Nat} {C : String} (hl : τ.2 r i) (ht : (mTy G.2.1)[tt]? = some (G.2.1 tt, .object C)) (he : mE G.2.1 τ.1 r i (μ.1 r i) (μ.2 r i) = .inl (G.2.1 tt, n, .inr (.inr (.inr (.inr (fun j => if μ.1 r i j = 0 then none else some (τ.1 rr j))))))) (hlv : ∀ j, ¬ μ.1 r i j = 0 → τ.2 rr j) {j : Int32} (hin : vp_in j n) (hdg : decode cc pc = .ok (.aaload, 1))
    (kn : μ.1 r i j.toNatClampNeg = 0 → W p l e R s m args below meth c H locs cells slots Q (F0 m (pc + 1) ls (.null :: rest)))
    (ks : ¬ μ.1 r i j.toNatClampNeg = 0 → τ.2 rr j.toNatClampNeg → W p l e R s m args below meth c H locs cells slots Q (F0 m (pc + 1) ls (.ref (τ.1 rr j.toNatClampNeg) :: rest))) : W p l e R s m args below meth c H locs cells slots Q (F0 m pc ls (.int j :: .ref (τ.1 r i) :: rest)) := by
  refine va_aldq hx hb hT.1 (mP1 (hM.at hl he)) 0 tt rfl ht hin hdg ?_
  by_cases h : μ.1 r i j.toNatClampNeg = 0
  · rw [if_pos h]
    exact kn h
  · rw [if_neg h]
    exact ks h (hlv _ h)
theorem mw_astN (hx : p.tables.exec = Jvm.exec) (hb : c.code = cc) (hT : mT G s) (hM : mw G τ μ H locs) {r i rr n tt : Nat} {C : String} (hl : τ.2 r i) (ht : (mTy G.2.1)[tt]? = some (G.2.1 tt, .object C)) (he : ∀ (f : Nat → Int32) (g : Nat → Int64), mE G.2.1 τ.1 r i f g = .inl (G.2.1 tt, n, .inr (.inr (.inr (.inr (fun j => if f j = 0 then none else some (τ.1 rr j))))))) {j : Int32} (hk' : mK τ (sI μ r i j.toNatClampNeg 0)) (hin : vp_in j n) (hdg : decode cc pc = .ok (.aastore, 1))
    (kk : ∀ (μ1 : mMem) (H1 : Heap) (locs1 : List Loc), μ1 = sI μ r i j.toNatClampNeg 0 → mw G τ μ1 H1 locs1 → W p l e R s m args below meth c H1 locs1 cells slots Q (F0 m (pc + 1) ls rest)) : W p l e R s m args below meth c H locs cells slots Q (F0 m pc ls (.null :: .int j :: .ref (τ.1 r i) :: rest)) := by
  refine va_WaastN (C := C) hx hb (hM.at hl (he _ _)) ((hT.1.2 tt _ ht).1 n _) (fun h => by cases h) (by show ¬ (j < 0 ∨ (arrV _ _ _).slots.size ≤ _); rw [arrV_size]; exact hin) rfl rfl hdg fun H1 e z oq => ?_
  refine kk _ H1 _ rfl (hM.set hl (mOff_I _ _ _ _ _) hk' ?_ z oq)
  rw [he, sI_row]
  show H1[τ.1 r i]? = some (vp_cell _ _)
  rw [e]
  rw [vp_cell_q, vp_cell_q, arrV_store]
  congr 2
  funext q
  by_cases hq : q = j.toNatClampNeg
  · subst hq
    simp [updV, upd, va_rf]
  · simp [updV, upd, hq]
theorem mw_ast (hx : p.tables.exec = Jvm.exec) (hb : c.code = cc) (hT : mT G s) (hM : mw G τ μ H locs) {r i rr n tt ci : Nat} {q : vw_C} {fs : List Value} (hl : τ.2 r i) (ht : (mTy G.2.1)[tt]? = some (G.2.1 tt, .object q.1)) (he : ∀ (f : Nat → Int32) (g : Nat → Int64), mE G.2.1 τ.1 r i f g = .inl (G.2.1 tt, n, .inr (.inr (.inr (.inr (fun j => if f j = 0 then none else some (τ.1 rr j))))))) {j : Int32} {v : Nat} (hv : v = j.toNatClampNeg) (hlv : τ.2 rr v) (hev : mE G.2.1 τ.1 rr v (μ.1 rr v) (μ.2 rr v) = .inr (ci, fs)) (hc : vwCl[ci]? = some q) (hk' : mK τ (sI μ r i j.toNatClampNeg 1)) (hin : vp_in j n) (hdg : decode cc pc = .ok (.aastore, 1))
    (kk : ∀ (μ1 : mMem) (H1 : Heap) (locs1 : List Loc), μ1 = sI μ r i j.toNatClampNeg 1 → mw G τ μ1 H1 locs1 → W p l e R s m args below meth c H1 locs1 cells slots Q (F0 m (pc + 1) ls rest)) : W p l e R s m args below meth c H locs cells slots Q (F0 m pc ls (.ref (τ.1 rr v) :: .int j :: .ref (τ.1 r i) :: rest)) := by
  subst hv
  have hlt : j.toNatClampNeg < n := Nat.not_le.mp fun q => hin (Or.inr q)
  have h0 : ¬ j < 0 := fun q => hin (Or.inl q)
  obtain ⟨r', hr', cellV, g1, g2, g3, -⟩ := hM.at hlv hev
  have hcls := (hT.1.1 ci q hc).2
  obtain ⟨kA, comp, k1, k2, k3, -⟩ := (hT.1.2 tt _ ht).2
  have hcomp : comp = G.1.1 ci := Option.some.inj (k3.symm.trans hcls.1)
  subst hcomp
  obtain ⟨kC, hkC, -⟩ := hcls.2
  refine W.aast hx hb (hM.at hl (he _ _)) (fun q h => by cases h) (fun h => by cases h) k1 k2 rfl hkC ⟨h0, by show _ < (arrV _ _ _).slots.size; rw [arrV_size]; exact hlt⟩ g1 (fun q h => by rw [g3] at h; cases h) (by rw [g2]; exact hkC) (by rw [g2]; exact va_assign hcls) rfl rfl hdg fun H1 e z oq => ?_
  refine kk _ H1 _ rfl (hM.set hl (mOff_I _ _ _ _ _) hk' ?_ z oq)
  rw [he, sI_row]
  show H1[τ.1 r i]? = some (vp_cell _ _)
  rw [e]
  rw [vp_cell_q, vp_cell_q, arrV_store]
  congr 2
  funext q
  by_cases hq : q = j.toNatClampNeg
  · subst hq
    simp [updV, upd, va_rf]
  · simp [updV, upd, hq]
end REFS
end
