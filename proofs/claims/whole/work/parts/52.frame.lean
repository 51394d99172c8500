def keeps (S : Nat → Bool) (ν μ : mMem) : Prop := ∀ r, S r = true → μ.1 r = ν.1 r ∧ μ.2 r = ν.2 r
theorem keeps.rf {S : Nat → Bool} {μ : mMem} : keeps S μ μ := fun _ _ => ⟨rfl, rfl⟩
theorem keeps_I {S : Nat → Bool} {ν μ : mMem} {r i k : Nat} {x : Int32} (h : keeps S ν μ) (hr : S r = false) : keeps S ν (sI μ r i k x) := by
  intro a ha
  refine ⟨?_, (h a ha).2⟩
  rw [← (h a ha).1]
  funext b c
  simp only [sI]
  rw [if_neg]
  rintro ⟨rfl, -⟩
  rw [hr] at ha
  cases ha
theorem keeps_L {S : Nat → Bool} {ν μ : mMem} {r i k : Nat} {x : Int64} (h : keeps S ν μ) (hr : S r = false) : keeps S ν (sL μ r i k x) := by
  intro a ha
  refine ⟨(h a ha).1, ?_⟩
  rw [← (h a ha).2]
  funext b c
  simp only [sL]
  rw [if_neg]
  rintro ⟨rfl, -⟩
  rw [hr] at ha
  cases ha
theorem keeps_rI {S : Nat → Bool} {ν μ : mMem} {r i : Nat} {f : Nat → Int32} (h : keeps S ν μ) (hr : S r = false) : keeps S ν (rI μ r i f) := by
  intro a ha
  refine ⟨?_, (h a ha).2⟩
  rw [← (h a ha).1]
  funext b c
  simp only [rI]
  rw [if_neg]
  rintro ⟨rfl, -⟩
  rw [hr] at ha
  cases ha
theorem keeps_rL {S : Nat → Bool} {ν μ : mMem} {r i : Nat} {f : Nat → Int64} (h : keeps S ν μ) (hr : S r = false) : keeps S ν (rL μ r i f) := by
  intro a ha
  refine ⟨(h a ha).1, ?_⟩
  rw [← (h a ha).2]
  funext b c
  simp only [rL]
  rw [if_neg]
  rintro ⟨rfl, -⟩
  rw [hr] at ha
  cases ha
def k0 : Nat → Bool := fun r => r == 0 || r == 10 || Nat.ble 20 r
def k1 : Nat → Bool := fun r => Nat.ble 20 r
def kM : Nat → Bool := fun r => Nat.ble r 19
theorem fr_X_drop_l36 {ν : mMem} : ∀ (n : Nat) (y0 : Int32) (y1 : Int32) {μ : mMem} (_ : keeps k0 ν μ), keeps k0 ν (f_X_drop_l36 n y0 y1 μ).2 := by
  intro n
  induction n with
  | zero => intros; assumption
  | succ n ih =>
    intros
    unfold f_X_drop_l36
    try dsimp only [oC]
    repeat' (first | with_reducible assumption | exact (rfl : (_ : Bool) = _) | with_reducible apply keeps_I | with_reducible apply keeps_L | with_reducible apply keeps_rI | with_reducible apply keeps_rL | apply ih | split)
theorem fr_X_drop {ν μ : mMem} (a1 : Int32) (h : keeps k0 ν μ) : keeps k0 ν (f_X_drop μ a1).2 := by
  unfold f_X_drop
  try dsimp only [oC]
  repeat' (first | with_reducible assumption | exact (rfl : (_ : Bool) = _) | with_reducible apply keeps_I | with_reducible apply keeps_L | with_reducible apply keeps_rI | with_reducible apply keeps_rL | with_reducible apply fr_X_drop_l36 | split)
theorem fr_C_append {ν μ : mMem} (a1 : Int32) (a2 : Int32) (h : keeps k0 ν μ) : keeps k0 ν (f_C_append μ a1 a2) := by
  unfold f_C_append
  try dsimp only [oC]
  repeat' (first | with_reducible assumption | exact (rfl : (_ : Bool) = _) | with_reducible apply keeps_I | with_reducible apply keeps_L | with_reducible apply keeps_rI | with_reducible apply keeps_rL | with_reducible apply fr_X_drop_l36 | with_reducible apply fr_X_drop | split)
theorem fr_X_collect {ν μ : mMem} (a1 : Int32) (a2 : Int32) (h : keeps k0 ν μ) : keeps k0 ν (f_X_collect μ a1 a2).2 := by
  unfold f_X_collect
  try dsimp only [oC]
  repeat' (first | with_reducible assumption | exact (rfl : (_ : Bool) = _) | with_reducible apply keeps_I | with_reducible apply keeps_L | with_reducible apply keeps_rI | with_reducible apply keeps_rL | with_reducible apply fr_X_drop_l36 | with_reducible apply fr_X_drop | with_reducible apply fr_C_append | split)
theorem fr_P_addToTable {ν μ : mMem} (i0 : Nat) (a1 : Int64) (h : keeps k0 ν μ) : keeps k0 ν (f_P_addToTable μ i0 a1) := by
  unfold f_P_addToTable
  try dsimp only [oC]
  repeat' (first | with_reducible assumption | exact (rfl : (_ : Bool) = _) | with_reducible apply keeps_I | with_reducible apply keeps_L | with_reducible apply keeps_rI | with_reducible apply keeps_rL | with_reducible apply fr_X_drop_l36 | with_reducible apply fr_X_drop | with_reducible apply fr_C_append | with_reducible apply fr_X_collect | split)
theorem fr_X_answer {ν μ : mMem} (a1 : Int32) (a2 : Int64) (h : keeps k0 ν μ) : keeps k0 ν (f_X_answer μ a1 a2).2 := by
  unfold f_X_answer
  try dsimp only [oC]
  repeat' (first | with_reducible assumption | exact (rfl : (_ : Bool) = _) | with_reducible apply keeps_I | with_reducible apply keeps_L | with_reducible apply keeps_rI | with_reducible apply keeps_rL | with_reducible apply fr_X_drop_l36 | with_reducible apply fr_X_drop | with_reducible apply fr_C_append | with_reducible apply fr_X_collect | with_reducible apply fr_P_addToTable | split)
theorem fr_X_fails {ν μ : mMem} (a1 : Int32) (a2 : Int32) (a3 : Int32) (h : keeps k0 ν μ) : keeps k0 ν (f_X_fails μ a1 a2 a3).2 := by
  unfold f_X_fails
  try dsimp only [oC]
  repeat' (first | with_reducible assumption | exact (rfl : (_ : Bool) = _) | with_reducible apply keeps_I | with_reducible apply keeps_L | with_reducible apply keeps_rI | with_reducible apply keeps_rL | with_reducible apply fr_X_drop_l36 | with_reducible apply fr_X_drop | with_reducible apply fr_C_append | with_reducible apply fr_X_collect | with_reducible apply fr_P_addToTable | with_reducible apply fr_X_answer | split)
theorem fr_O_addToCounts {ν μ : mMem} (a1 : Int32) (h : keeps k0 ν μ) : keeps k0 ν (f_O_addToCounts μ a1) := by
  unfold f_O_addToCounts
  try dsimp only [oC]
  repeat' (first | with_reducible assumption | exact (rfl : (_ : Bool) = _) | with_reducible apply keeps_I | with_reducible apply keeps_L | with_reducible apply keeps_rI | with_reducible apply keeps_rL | with_reducible apply fr_X_drop_l36 | with_reducible apply fr_X_drop | with_reducible apply fr_C_append | with_reducible apply fr_X_collect | with_reducible apply fr_P_addToTable | with_reducible apply fr_X_answer | with_reducible apply fr_X_fails | split)
theorem fr_O_add {ν μ : mMem} (a1 : Int32) (a2 : Int32) (a3 : Int32) (a4 : Int64) (h : keeps k0 ν μ) : keeps k0 ν (f_O_add μ a1 a2 a3 a4) := by
  unfold f_O_add
  try dsimp only [oC]
  repeat' (first | with_reducible assumption | exact (rfl : (_ : Bool) = _) | with_reducible apply keeps_I | with_reducible apply keeps_L | with_reducible apply keeps_rI | with_reducible apply keeps_rL | with_reducible apply fr_X_drop_l36 | with_reducible apply fr_X_drop | with_reducible apply fr_C_append | with_reducible apply fr_X_collect | with_reducible apply fr_P_addToTable | with_reducible apply fr_X_answer | with_reducible apply fr_X_fails | with_reducible apply fr_O_addToCounts | split)
theorem fr_X_tell {ν μ : mMem} (a1 : Int32) (a2 : Int32) (a3 : Int32) (a4 : Int64) (h : keeps k0 ν μ) : keeps k0 ν (f_X_tell μ a1 a2 a3 a4).2 := by
  unfold f_X_tell
  try dsimp only [oC]
  repeat' (first | with_reducible assumption | exact (rfl : (_ : Bool) = _) | with_reducible apply keeps_I | with_reducible apply keeps_L | with_reducible apply keeps_rI | with_reducible apply keeps_rL | with_reducible apply fr_X_drop_l36 | with_reducible apply fr_X_drop | with_reducible apply fr_C_append | with_reducible apply fr_X_collect | with_reducible apply fr_P_addToTable | with_reducible apply fr_X_answer | with_reducible apply fr_X_fails | with_reducible apply fr_O_addToCounts | with_reducible apply fr_O_add | split)
theorem fr_C_empty {ν μ : mMem} (a1 : Int32) (h : keeps k0 ν μ) : keeps k0 ν (f_C_empty μ a1) := by
  unfold f_C_empty
  try dsimp only [oC]
  repeat' (first | with_reducible assumption | exact (rfl : (_ : Bool) = _) | with_reducible apply keeps_I | with_reducible apply keeps_L | with_reducible apply keeps_rI | with_reducible apply keeps_rL | with_reducible apply fr_X_drop_l36 | with_reducible apply fr_X_drop | with_reducible apply fr_C_append | with_reducible apply fr_X_collect | with_reducible apply fr_P_addToTable | with_reducible apply fr_X_answer | with_reducible apply fr_X_fails | with_reducible apply fr_O_addToCounts | with_reducible apply fr_O_add | with_reducible apply fr_X_tell | split)
theorem fr_B_queue {ν μ : mMem} (i0 : Nat) (a1 : Int32) (a2 : Int32) (a3 : Int64) (h : keeps k0 ν μ) : keeps k0 ν (f_B_queue μ i0 a1 a2 a3) := by
  unfold f_B_queue
  try dsimp only [oC]
  repeat' (first | with_reducible assumption | exact (rfl : (_ : Bool) = _) | with_reducible apply keeps_I | with_reducible apply keeps_L | with_reducible apply keeps_rI | with_reducible apply keeps_rL | with_reducible apply fr_X_drop_l36 | with_reducible apply fr_X_drop | with_reducible apply fr_C_append | with_reducible apply fr_X_collect | with_reducible apply fr_P_addToTable | with_reducible apply fr_X_answer | with_reducible apply fr_X_fails | with_reducible apply fr_O_addToCounts | with_reducible apply fr_O_add | with_reducible apply fr_X_tell | with_reducible apply fr_C_empty | split)
theorem fr_P_outcome {ν μ : mMem} (i0 : Nat) (h : keeps k0 ν μ) : keeps k0 ν (f_P_outcome μ i0).2 := by
  unfold f_P_outcome
  try dsimp only [oC]
  repeat' (first | with_reducible assumption | exact (rfl : (_ : Bool) = _) | with_reducible apply keeps_I | with_reducible apply keeps_L | with_reducible apply keeps_rI | with_reducible apply keeps_rL | with_reducible apply fr_X_drop_l36 | with_reducible apply fr_X_drop | with_reducible apply fr_C_append | with_reducible apply fr_X_collect | with_reducible apply fr_P_addToTable | with_reducible apply fr_X_answer | with_reducible apply fr_X_fails | with_reducible apply fr_O_addToCounts | with_reducible apply fr_O_add | with_reducible apply fr_X_tell | with_reducible apply fr_C_empty | with_reducible apply fr_B_queue | split)
theorem fr_P_reply {ν μ : mMem} (i0 : Nat) (a1 : Int64) (h : keeps k0 ν μ) : keeps k0 ν (f_P_reply μ i0 a1).2 := by
  unfold f_P_reply
  try dsimp only [oC]
  repeat' (first | with_reducible assumption | exact (rfl : (_ : Bool) = _) | with_reducible apply keeps_I | with_reducible apply keeps_L | with_reducible apply keeps_rI | with_reducible apply keeps_rL | with_reducible apply fr_X_drop_l36 | with_reducible apply fr_X_drop | with_reducible apply fr_C_append | with_reducible apply fr_X_collect | with_reducible apply fr_P_addToTable | with_reducible apply fr_X_answer | with_reducible apply fr_X_fails | with_reducible apply fr_O_addToCounts | with_reducible apply fr_O_add | with_reducible apply fr_X_tell | with_reducible apply fr_C_empty | with_reducible apply fr_B_queue | with_reducible apply fr_P_outcome | split)
theorem fr_X_call {ν μ : mMem} (a1 : Int32) (a2 : Int32) (a3 : Int64) (h : keeps k0 ν μ) : keeps k0 ν (f_X_call μ a1 a2 a3).2 := by
  unfold f_X_call
  try dsimp only [oC]
  repeat' (first | with_reducible assumption | exact (rfl : (_ : Bool) = _) | with_reducible apply keeps_I | with_reducible apply keeps_L | with_reducible apply keeps_rI | with_reducible apply keeps_rL | with_reducible apply fr_X_drop_l36 | with_reducible apply fr_X_drop | with_reducible apply fr_C_append | with_reducible apply fr_X_collect | with_reducible apply fr_P_addToTable | with_reducible apply fr_X_answer | with_reducible apply fr_X_fails | with_reducible apply fr_O_addToCounts | with_reducible apply fr_O_add | with_reducible apply fr_X_tell | with_reducible apply fr_C_empty | with_reducible apply fr_B_queue | with_reducible apply fr_P_outcome | with_reducible apply fr_P_reply | split)
theorem fr_B_begin {ν μ : mMem} (i0 : Nat) (a1 : Int32) (h : keeps k0 ν μ) : keeps k0 ν (f_B_begin μ i0 a1) := by
  unfold f_B_begin
  try dsimp only [oC]
  repeat' (first | with_reducible assumption | exact (rfl : (_ : Bool) = _) | with_reducible apply keeps_I | with_reducible apply keeps_L | with_reducible apply keeps_rI | with_reducible apply keeps_rL | with_reducible apply fr_X_drop_l36 | with_reducible apply fr_X_drop | with_reducible apply fr_C_append | with_reducible apply fr_X_collect | with_reducible apply fr_P_addToTable | with_reducible apply fr_X_answer | with_reducible apply fr_X_fails | with_reducible apply fr_O_addToCounts | with_reducible apply fr_O_add | with_reducible apply fr_X_tell | with_reducible apply fr_C_empty | with_reducible apply fr_B_queue | with_reducible apply fr_P_outcome | with_reducible apply fr_P_reply | with_reducible apply fr_X_call | split)
theorem fr_X_build {ν μ : mMem} (a1 : Int32) (a2 : Int32) (h : keeps k0 ν μ) : keeps k0 ν (f_X_build μ a1 a2).2 := by
  unfold f_X_build
  try dsimp only [oC]
  repeat' (first | with_reducible assumption | exact (rfl : (_ : Bool) = _) | with_reducible apply keeps_I | with_reducible apply keeps_L | with_reducible apply keeps_rI | with_reducible apply keeps_rL | with_reducible apply fr_X_drop_l36 | with_reducible apply fr_X_drop | with_reducible apply fr_C_append | with_reducible apply fr_X_collect | with_reducible apply fr_P_addToTable | with_reducible apply fr_X_answer | with_reducible apply fr_X_fails | with_reducible apply fr_O_addToCounts | with_reducible apply fr_O_add | with_reducible apply fr_X_tell | with_reducible apply fr_C_empty | with_reducible apply fr_B_queue | with_reducible apply fr_P_outcome | with_reducible apply fr_P_reply | with_reducible apply fr_X_call | with_reducible apply fr_B_begin | split)
theorem fr_B_nextTurn {ν μ : mMem} (i0 : Nat) (h : keeps k0 ν μ) : keeps k0 ν (f_B_nextTurn μ i0).2 := by
  unfold f_B_nextTurn
  try dsimp only [oC]
  repeat' (first | with_reducible assumption | exact (rfl : (_ : Bool) = _) | with_reducible apply keeps_I | with_reducible apply keeps_L | with_reducible apply keeps_rI | with_reducible apply keeps_rL | with_reducible apply fr_X_drop_l36 | with_reducible apply fr_X_drop | with_reducible apply fr_C_append | with_reducible apply fr_X_collect | with_reducible apply fr_P_addToTable | with_reducible apply fr_X_answer | with_reducible apply fr_X_fails | with_reducible apply fr_O_addToCounts | with_reducible apply fr_O_add | with_reducible apply fr_X_tell | with_reducible apply fr_C_empty | with_reducible apply fr_B_queue | with_reducible apply fr_P_outcome | with_reducible apply fr_P_reply | with_reducible apply fr_X_call | with_reducible apply fr_B_begin | with_reducible apply fr_X_build | split)
theorem fr_X_goes {ν μ : mMem} (a1 : Int32) (a2 : Int32) (a3 : Int64) (h : keeps k0 ν μ) : keeps k0 ν (f_X_goes μ a1 a2 a3).2 := by
  unfold f_X_goes
  try dsimp only [oC]
  repeat' (first | with_reducible assumption | exact (rfl : (_ : Bool) = _) | with_reducible apply keeps_I | with_reducible apply keeps_L | with_reducible apply keeps_rI | with_reducible apply keeps_rL | with_reducible apply fr_X_drop_l36 | with_reducible apply fr_X_drop | with_reducible apply fr_C_append | with_reducible apply fr_X_collect | with_reducible apply fr_P_addToTable | with_reducible apply fr_X_answer | with_reducible apply fr_X_fails | with_reducible apply fr_O_addToCounts | with_reducible apply fr_O_add | with_reducible apply fr_X_tell | with_reducible apply fr_C_empty | with_reducible apply fr_B_queue | with_reducible apply fr_P_outcome | with_reducible apply fr_P_reply | with_reducible apply fr_X_call | with_reducible apply fr_B_begin | with_reducible apply fr_X_build | with_reducible apply fr_B_nextTurn | split)
theorem fr_X_letWaitingGo_l2 {ν : mMem} : ∀ (n : Nat) (y0 : Nat) (y1 : Int32) {μ : mMem} (_ : keeps k0 ν μ), keeps k0 ν (f_X_letWaitingGo_l2 n y0 y1 μ) := by
  intro n
  induction n with
  | zero => intros; assumption
  | succ n ih =>
    intros
    unfold f_X_letWaitingGo_l2
    try dsimp only [oC]
    repeat' (first | with_reducible assumption | exact (rfl : (_ : Bool) = _) | with_reducible apply keeps_I | with_reducible apply keeps_L | with_reducible apply keeps_rI | with_reducible apply keeps_rL | with_reducible apply fr_X_drop_l36 | with_reducible apply fr_X_drop | with_reducible apply fr_C_append | with_reducible apply fr_X_collect | with_reducible apply fr_P_addToTable | with_reducible apply fr_X_answer | with_reducible apply fr_X_fails | with_reducible apply fr_O_addToCounts | with_reducible apply fr_O_add | with_reducible apply fr_X_tell | with_reducible apply fr_C_empty | with_reducible apply fr_B_queue | with_reducible apply fr_P_outcome | with_reducible apply fr_P_reply | with_reducible apply fr_X_call | with_reducible apply fr_B_begin | with_reducible apply fr_X_build | with_reducible apply fr_B_nextTurn | with_reducible apply fr_X_goes | apply ih | split)
theorem fr_X_letWaitingGo {ν μ : mMem} (i1 : Nat) (h : keeps k0 ν μ) : keeps k0 ν (f_X_letWaitingGo μ i1) := by
  unfold f_X_letWaitingGo
  try dsimp only [oC]
  repeat' (first | with_reducible assumption | exact (rfl : (_ : Bool) = _) | with_reducible apply keeps_I | with_reducible apply keeps_L | with_reducible apply keeps_rI | with_reducible apply keeps_rL | with_reducible apply fr_X_drop_l36 | with_reducible apply fr_X_drop | with_reducible apply fr_C_append | with_reducible apply fr_X_collect | with_reducible apply fr_P_addToTable | with_reducible apply fr_X_answer | with_reducible apply fr_X_fails | with_reducible apply fr_O_addToCounts | with_reducible apply fr_O_add | with_reducible apply fr_X_tell | with_reducible apply fr_C_empty | with_reducible apply fr_B_queue | with_reducible apply fr_P_outcome | with_reducible apply fr_P_reply | with_reducible apply fr_X_call | with_reducible apply fr_B_begin | with_reducible apply fr_X_build | with_reducible apply fr_B_nextTurn | with_reducible apply fr_X_goes | with_reducible apply fr_X_letWaitingGo_l2 | split)
theorem fr_X_turn_l52 {ν : mMem} : ∀ (n : Nat) (y0 : Int32) (y1 : Nat) (y2 : Int32) (y3 : Int32) (y4 : Int32) (y5 : Int32) (y6 : Int32) {μ : mMem} (_ : keeps k0 ν μ), keeps k0 ν (f_X_turn_l52 n y0 y1 y2 y3 y4 y5 y6 μ).2 := by
  intro n
  induction n with
  | zero => intros; assumption
  | succ n ih =>
    intros
    unfold f_X_turn_l52
    try dsimp only [oC]
    repeat' (first | with_reducible assumption | exact (rfl : (_ : Bool) = _) | with_reducible apply keeps_I | with_reducible apply keeps_L | with_reducible apply keeps_rI | with_reducible apply keeps_rL | with_reducible apply fr_X_drop_l36 | with_reducible apply fr_X_drop | with_reducible apply fr_C_append | with_reducible apply fr_X_collect | with_reducible apply fr_P_addToTable | with_reducible apply fr_X_answer | with_reducible apply fr_X_fails | with_reducible apply fr_O_addToCounts | with_reducible apply fr_O_add | with_reducible apply fr_X_tell | with_reducible apply fr_C_empty | with_reducible apply fr_B_queue | with_reducible apply fr_P_outcome | with_reducible apply fr_P_reply | with_reducible apply fr_X_call | with_reducible apply fr_B_begin | with_reducible apply fr_X_build | with_reducible apply fr_B_nextTurn | with_reducible apply fr_X_goes | with_reducible apply fr_X_letWaitingGo_l2 | with_reducible apply fr_X_letWaitingGo | apply ih | split)
theorem fr_X_turn {ν μ : mMem} (a1 : Int32) (h : keeps k0 ν μ) : keeps k0 ν (f_X_turn μ a1).2 := by
  unfold f_X_turn
  try dsimp only [oC]
  repeat' (first | with_reducible assumption | exact (rfl : (_ : Bool) = _) | with_reducible apply keeps_I | with_reducible apply keeps_L | with_reducible apply keeps_rI | with_reducible apply keeps_rL | with_reducible apply fr_X_drop_l36 | with_reducible apply fr_X_drop | with_reducible apply fr_C_append | with_reducible apply fr_X_collect | with_reducible apply fr_P_addToTable | with_reducible apply fr_X_answer | with_reducible apply fr_X_fails | with_reducible apply fr_O_addToCounts | with_reducible apply fr_O_add | with_reducible apply fr_X_tell | with_reducible apply fr_C_empty | with_reducible apply fr_B_queue | with_reducible apply fr_P_outcome | with_reducible apply fr_P_reply | with_reducible apply fr_X_call | with_reducible apply fr_B_begin | with_reducible apply fr_X_build | with_reducible apply fr_B_nextTurn | with_reducible apply fr_X_goes | with_reducible apply fr_X_letWaitingGo_l2 | with_reducible apply fr_X_letWaitingGo | with_reducible apply fr_X_turn_l52 | split)
theorem fr_X_keep {ν μ : mMem} (i1 : Nat) (h : keeps k1 ν μ) : keeps k1 ν (f_X_keep μ i1).2 := by
  unfold f_X_keep
  try dsimp only [oC, nThing, nBuild, nPart]
  repeat' (first | with_reducible assumption | exact (rfl : (_ : Bool) = _) | with_reducible apply keeps_I | with_reducible apply keeps_L | with_reducible apply keeps_rI | with_reducible apply keeps_rL | split)
theorem fr_M_make {ν μ : mMem} (a1 : Int32) (a2 : Int32) (h : keeps kM ν μ) : keeps kM ν (f_M_make μ a1 a2).2 := by
  unfold f_M_make
  try dsimp only [oC]
  repeat' (first | with_reducible assumption | exact (rfl : (_ : Bool) = _) | with_reducible apply keeps_I | with_reducible apply keeps_L | with_reducible apply keeps_rI | with_reducible apply keeps_rL | split)
theorem fr_M_drop_l42 {ν : mMem} : ∀ (n : Nat) (y0 : Int32) (y1 : Int32) {μ : mMem} (_ : keeps kM ν μ), keeps kM ν (f_M_drop_l42 n y0 y1 μ).2 := by
  intro n
  induction n with
  | zero => intros; assumption
  | succ n ih =>
    intros
    unfold f_M_drop_l42
    try dsimp only [oC]
    repeat' (first | with_reducible assumption | exact (rfl : (_ : Bool) = _) | with_reducible apply keeps_I | with_reducible apply keeps_L | with_reducible apply keeps_rI | with_reducible apply keeps_rL | with_reducible apply fr_M_make | apply ih | split)
theorem fr_M_drop {ν μ : mMem} (a1 : Int32) (h : keeps kM ν μ) : keeps kM ν (f_M_drop μ a1).2 := by
  unfold f_M_drop
  try dsimp only [oC]
  repeat' (first | with_reducible assumption | exact (rfl : (_ : Bool) = _) | with_reducible apply keeps_I | with_reducible apply keeps_L | with_reducible apply keeps_rI | with_reducible apply keeps_rL | with_reducible apply fr_M_make | with_reducible apply fr_M_drop_l42 | split)
theorem fr_M_numbers_l21 {ν : mMem} : ∀ (n : Nat) (y0 : Int32) (y1 : Int32) (y2 : Int32) {μ : mMem} (_ : keeps kM ν μ), keeps kM ν (f_M_numbers_l21 n y0 y1 y2 μ).2 := by
  intro n
  induction n with
  | zero => intros; assumption
  | succ n ih =>
    intros
    unfold f_M_numbers_l21
    try dsimp only [oC]
    repeat' (first | with_reducible assumption | exact (rfl : (_ : Bool) = _) | with_reducible apply keeps_I | with_reducible apply keeps_L | with_reducible apply keeps_rI | with_reducible apply keeps_rL | with_reducible apply fr_M_make | with_reducible apply fr_M_drop_l42 | with_reducible apply fr_M_drop | apply ih | split)
theorem fr_M_numbers {ν μ : mMem} (a1 : Int32) (h : keeps kM ν μ) : keeps kM ν (f_M_numbers μ a1).2 := by
  unfold f_M_numbers
  try dsimp only [oC]
  repeat' (first | with_reducible assumption | exact (rfl : (_ : Bool) = _) | with_reducible apply keeps_I | with_reducible apply keeps_L | with_reducible apply keeps_rI | with_reducible apply keeps_rL | with_reducible apply fr_M_make | with_reducible apply fr_M_drop_l42 | with_reducible apply fr_M_drop | with_reducible apply fr_M_numbers_l21 | split)
theorem fr_M_about_l20 {ν : mMem} : ∀ (n : Nat) (y0 : Int32) (y1 : Int32) (y2 : Int32) (y3 : Int32) {μ : mMem} (_ : keeps kM ν μ), keeps kM ν (f_M_about_l20 n y0 y1 y2 y3 μ).2 := by
  intro n
  induction n with
  | zero => intros; assumption
  | succ n ih =>
    intros
    unfold f_M_about_l20
    try dsimp only [oC]
    repeat' (first | with_reducible assumption | exact (rfl : (_ : Bool) = _) | with_reducible apply keeps_I | with_reducible apply keeps_L | with_reducible apply keeps_rI | with_reducible apply keeps_rL | with_reducible apply fr_M_make | with_reducible apply fr_M_drop_l42 | with_reducible apply fr_M_drop | with_reducible apply fr_M_numbers_l21 | with_reducible apply fr_M_numbers | apply ih | split)
theorem fr_M_about {ν μ : mMem} (a1 : Int32) (a2 : Int32) (h : keeps kM ν μ) : keeps kM ν (f_M_about μ a1 a2).2 := by
  unfold f_M_about
  try dsimp only [oC]
  repeat' (first | with_reducible assumption | exact (rfl : (_ : Bool) = _) | with_reducible apply keeps_I | with_reducible apply keeps_L | with_reducible apply keeps_rI | with_reducible apply keeps_rL | with_reducible apply fr_M_make | with_reducible apply fr_M_drop_l42 | with_reducible apply fr_M_drop | with_reducible apply fr_M_numbers_l21 | with_reducible apply fr_M_numbers | with_reducible apply fr_M_about_l20 | split)
theorem fr_M_collect {ν μ : mMem} (a1 : Int32) (a2 : Int32) (h : keeps kM ν μ) : keeps kM ν (f_M_collect μ a1 a2).2 := by
  unfold f_M_collect
  try dsimp only [oC]
  repeat' (first | with_reducible assumption | exact (rfl : (_ : Bool) = _) | with_reducible apply keeps_I | with_reducible apply keeps_L | with_reducible apply keeps_rI | with_reducible apply keeps_rL | with_reducible apply fr_M_make | with_reducible apply fr_M_drop_l42 | with_reducible apply fr_M_drop | with_reducible apply fr_M_numbers_l21 | with_reducible apply fr_M_numbers | with_reducible apply fr_M_about_l20 | with_reducible apply fr_M_about | split)
theorem fr_M_collected {ν μ : mMem} (a1 : Int32) (h : keeps kM ν μ) : keeps kM ν (f_M_collected μ a1).2 := by
  unfold f_M_collected
  try dsimp only [oC]
  repeat' (first | with_reducible assumption | exact (rfl : (_ : Bool) = _) | with_reducible apply keeps_I | with_reducible apply keeps_L | with_reducible apply keeps_rI | with_reducible apply keeps_rL | with_reducible apply fr_M_make | with_reducible apply fr_M_drop_l42 | with_reducible apply fr_M_drop | with_reducible apply fr_M_numbers_l21 | with_reducible apply fr_M_numbers | with_reducible apply fr_M_about_l20 | with_reducible apply fr_M_about | with_reducible apply fr_M_collect | split)
theorem fr_M_define {ν μ : mMem} (a1 : Int32) (a2 : Int32) (a3 : Int32) (a4 : Int64) (a5 : Int64) (h : keeps kM ν μ) : keeps kM ν (f_M_define μ a1 a2 a3 a4 a5).2 := by
  unfold f_M_define
  try dsimp only [oC]
  repeat' (first | with_reducible assumption | exact (rfl : (_ : Bool) = _) | with_reducible apply keeps_I | with_reducible apply keeps_L | with_reducible apply keeps_rI | with_reducible apply keeps_rL | with_reducible apply fr_M_make | with_reducible apply fr_M_drop_l42 | with_reducible apply fr_M_drop | with_reducible apply fr_M_numbers_l21 | with_reducible apply fr_M_numbers | with_reducible apply fr_M_about_l20 | with_reducible apply fr_M_about | with_reducible apply fr_M_collect | with_reducible apply fr_M_collected | split)
theorem fr_M_answer {ν μ : mMem} (a1 : Int32) (a2 : Int64) (h : keeps kM ν μ) : keeps kM ν (f_M_answer μ a1 a2).2 := by
  unfold f_M_answer
  try dsimp only [oC]
  repeat' (first | with_reducible assumption | exact (rfl : (_ : Bool) = _) | with_reducible apply keeps_I | with_reducible apply keeps_L | with_reducible apply keeps_rI | with_reducible apply keeps_rL | with_reducible apply fr_M_make | with_reducible apply fr_M_drop_l42 | with_reducible apply fr_M_drop | with_reducible apply fr_M_numbers_l21 | with_reducible apply fr_M_numbers | with_reducible apply fr_M_about_l20 | with_reducible apply fr_M_about | with_reducible apply fr_M_collect | with_reducible apply fr_M_collected | with_reducible apply fr_M_define | split)
theorem fr_M_fails {ν μ : mMem} (a1 : Int32) (a2 : Int32) (a3 : Int32) (h : keeps kM ν μ) : keeps kM ν (f_M_fails μ a1 a2 a3).2 := by
  unfold f_M_fails
  try dsimp only [oC]
  repeat' (first | with_reducible assumption | exact (rfl : (_ : Bool) = _) | with_reducible apply keeps_I | with_reducible apply keeps_L | with_reducible apply keeps_rI | with_reducible apply keeps_rL | with_reducible apply fr_M_make | with_reducible apply fr_M_drop_l42 | with_reducible apply fr_M_drop | with_reducible apply fr_M_numbers_l21 | with_reducible apply fr_M_numbers | with_reducible apply fr_M_about_l20 | with_reducible apply fr_M_about | with_reducible apply fr_M_collect | with_reducible apply fr_M_collected | with_reducible apply fr_M_define | with_reducible apply fr_M_answer | split)
theorem fr_M_go {ν μ : mMem} (a1 : Int32) (a2 : Int64) (h : keeps kM ν μ) : keeps kM ν (f_M_go μ a1 a2) := by
  unfold f_M_go
  try dsimp only [oC]
  repeat' (first | with_reducible assumption | exact (rfl : (_ : Bool) = _) | with_reducible apply keeps_I | with_reducible apply keeps_L | with_reducible apply keeps_rI | with_reducible apply keeps_rL | with_reducible apply fr_M_make | with_reducible apply fr_M_drop_l42 | with_reducible apply fr_M_drop | with_reducible apply fr_M_numbers_l21 | with_reducible apply fr_M_numbers | with_reducible apply fr_M_about_l20 | with_reducible apply fr_M_about | with_reducible apply fr_M_collect | with_reducible apply fr_M_collected | with_reducible apply fr_M_define | with_reducible apply fr_M_answer | with_reducible apply fr_M_fails | split)
theorem fr_M_tell {ν μ : mMem} (a1 : Int32) (a2 : Int32) (a3 : Int32) (a4 : Int64) (h : keeps kM ν μ) : keeps kM ν (f_M_tell μ a1 a2 a3 a4) := by
  unfold f_M_tell
  try dsimp only [oC]
  repeat' (first | with_reducible assumption | exact (rfl : (_ : Bool) = _) | with_reducible apply keeps_I | with_reducible apply keeps_L | with_reducible apply keeps_rI | with_reducible apply keeps_rL | with_reducible apply fr_M_make | with_reducible apply fr_M_drop_l42 | with_reducible apply fr_M_drop | with_reducible apply fr_M_numbers_l21 | with_reducible apply fr_M_numbers | with_reducible apply fr_M_about_l20 | with_reducible apply fr_M_about | with_reducible apply fr_M_collect | with_reducible apply fr_M_collected | with_reducible apply fr_M_define | with_reducible apply fr_M_answer | with_reducible apply fr_M_fails | with_reducible apply fr_M_go | split)
theorem fr_M_call {ν μ : mMem} (a1 : Int32) (a2 : Int32) (a3 : Int64) (h : keeps kM ν μ) : keeps kM ν (f_M_call μ a1 a2 a3).2 := by
  unfold f_M_call
  try dsimp only [oC]
  repeat' (first | with_reducible assumption | exact (rfl : (_ : Bool) = _) | with_reducible apply keeps_I | with_reducible apply keeps_L | with_reducible apply keeps_rI | with_reducible apply keeps_rL | with_reducible apply fr_M_make | with_reducible apply fr_M_drop_l42 | with_reducible apply fr_M_drop | with_reducible apply fr_M_numbers_l21 | with_reducible apply fr_M_numbers | with_reducible apply fr_M_about_l20 | with_reducible apply fr_M_about | with_reducible apply fr_M_collect | with_reducible apply fr_M_collected | with_reducible apply fr_M_define | with_reducible apply fr_M_answer | with_reducible apply fr_M_fails | with_reducible apply fr_M_go | with_reducible apply fr_M_tell | split)
theorem fr_M_build {ν μ : mMem} (a1 : Int32) (a2 : Int32) (h : keeps kM ν μ) : keeps kM ν (f_M_build μ a1 a2).2 := by
  unfold f_M_build
  try dsimp only [oC]
  repeat' (first | with_reducible assumption | exact (rfl : (_ : Bool) = _) | with_reducible apply keeps_I | with_reducible apply keeps_L | with_reducible apply keeps_rI | with_reducible apply keeps_rL | with_reducible apply fr_M_make | with_reducible apply fr_M_drop_l42 | with_reducible apply fr_M_drop | with_reducible apply fr_M_numbers_l21 | with_reducible apply fr_M_numbers | with_reducible apply fr_M_about_l20 | with_reducible apply fr_M_about | with_reducible apply fr_M_collect | with_reducible apply fr_M_collected | with_reducible apply fr_M_define | with_reducible apply fr_M_answer | with_reducible apply fr_M_fails | with_reducible apply fr_M_go | with_reducible apply fr_M_tell | with_reducible apply fr_M_call | split)
theorem fr_M_turn_l175 {ν : mMem} : ∀ (n : Nat) (y0 : Int32) (y1 : Int32) (y2 : Int32) {μ : mMem} (_ : keeps kM ν μ), keeps kM ν (f_M_turn_l175 n y0 y1 y2 μ).2 := by
  intro n
  induction n with
  | zero => intros; assumption
  | succ n ih =>
    intros
    unfold f_M_turn_l175
    try dsimp only [oC]
    repeat' (first | with_reducible assumption | exact (rfl : (_ : Bool) = _) | with_reducible apply keeps_I | with_reducible apply keeps_L | with_reducible apply keeps_rI | with_reducible apply keeps_rL | with_reducible apply fr_M_make | with_reducible apply fr_M_drop_l42 | with_reducible apply fr_M_drop | with_reducible apply fr_M_numbers_l21 | with_reducible apply fr_M_numbers | with_reducible apply fr_M_about_l20 | with_reducible apply fr_M_about | with_reducible apply fr_M_collect | with_reducible apply fr_M_collected | with_reducible apply fr_M_define | with_reducible apply fr_M_answer | with_reducible apply fr_M_fails | with_reducible apply fr_M_go | with_reducible apply fr_M_tell | with_reducible apply fr_M_call | with_reducible apply fr_M_build | apply ih | split)
theorem fr_M_turn_l38 {ν : mMem} : ∀ (n : Nat) (y0 : Int32) (y1 : Int32) (y2 : Int32) {μ : mMem} (_ : keeps kM ν μ), keeps kM ν (f_M_turn_l38 n y0 y1 y2 μ).2 := by
  intro n
  induction n with
  | zero => intros; assumption
  | succ n ih =>
    intros
    unfold f_M_turn_l38
    try dsimp only [oC]
    repeat' (first | with_reducible assumption | exact (rfl : (_ : Bool) = _) | with_reducible apply keeps_I | with_reducible apply keeps_L | with_reducible apply keeps_rI | with_reducible apply keeps_rL | with_reducible apply fr_M_make | with_reducible apply fr_M_drop_l42 | with_reducible apply fr_M_drop | with_reducible apply fr_M_numbers_l21 | with_reducible apply fr_M_numbers | with_reducible apply fr_M_about_l20 | with_reducible apply fr_M_about | with_reducible apply fr_M_collect | with_reducible apply fr_M_collected | with_reducible apply fr_M_define | with_reducible apply fr_M_answer | with_reducible apply fr_M_fails | with_reducible apply fr_M_go | with_reducible apply fr_M_tell | with_reducible apply fr_M_call | with_reducible apply fr_M_build | with_reducible apply fr_M_turn_l175 | apply ih | split)
theorem fr_M_turn {ν μ : mMem} (a1 : Int32) (h : keeps kM ν μ) : keeps kM ν (f_M_turn μ a1).2 := by
  unfold f_M_turn
  try dsimp only [oC]
  repeat' (first | with_reducible assumption | exact (rfl : (_ : Bool) = _) | with_reducible apply keeps_I | with_reducible apply keeps_L | with_reducible apply keeps_rI | with_reducible apply keeps_rL | with_reducible apply fr_M_make | with_reducible apply fr_M_drop_l42 | with_reducible apply fr_M_drop | with_reducible apply fr_M_numbers_l21 | with_reducible apply fr_M_numbers | with_reducible apply fr_M_about_l20 | with_reducible apply fr_M_about | with_reducible apply fr_M_collect | with_reducible apply fr_M_collected | with_reducible apply fr_M_define | with_reducible apply fr_M_answer | with_reducible apply fr_M_fails | with_reducible apply fr_M_go | with_reducible apply fr_M_tell | with_reducible apply fr_M_call | with_reducible apply fr_M_build | with_reducible apply fr_M_turn_l175 | with_reducible apply fr_M_turn_l38 | split)
theorem fr_M_building {ν μ : mMem} (a1 : Int32) (a2 : Int32) (h : keeps kM ν μ) : keeps kM ν (f_M_building μ a1 a2).2 := by
  unfold f_M_building
  try dsimp only [oC]
  repeat' (first | with_reducible assumption | exact (rfl : (_ : Bool) = _) | with_reducible apply keeps_I | with_reducible apply keeps_L | with_reducible apply keeps_rI | with_reducible apply keeps_rL | with_reducible apply fr_M_make | with_reducible apply fr_M_drop_l42 | with_reducible apply fr_M_drop | with_reducible apply fr_M_numbers_l21 | with_reducible apply fr_M_numbers | with_reducible apply fr_M_about_l20 | with_reducible apply fr_M_about | with_reducible apply fr_M_collect | with_reducible apply fr_M_collected | with_reducible apply fr_M_define | with_reducible apply fr_M_answer | with_reducible apply fr_M_fails | with_reducible apply fr_M_go | with_reducible apply fr_M_tell | with_reducible apply fr_M_call | with_reducible apply fr_M_build | with_reducible apply fr_M_turn_l175 | with_reducible apply fr_M_turn_l38 | with_reducible apply fr_M_turn | split)
theorem fr_M_told {ν μ : mMem} (a1 : Int32) (a2 : Int32) (h : keeps kM ν μ) : keeps kM ν (f_M_told μ a1 a2).2 := by
  unfold f_M_told
  try dsimp only [oC]
  repeat' (first | with_reducible assumption | exact (rfl : (_ : Bool) = _) | with_reducible apply keeps_I | with_reducible apply keeps_L | with_reducible apply keeps_rI | with_reducible apply keeps_rL | with_reducible apply fr_M_make | with_reducible apply fr_M_drop_l42 | with_reducible apply fr_M_drop | with_reducible apply fr_M_numbers_l21 | with_reducible apply fr_M_numbers | with_reducible apply fr_M_about_l20 | with_reducible apply fr_M_about | with_reducible apply fr_M_collect | with_reducible apply fr_M_collected | with_reducible apply fr_M_define | with_reducible apply fr_M_answer | with_reducible apply fr_M_fails | with_reducible apply fr_M_go | with_reducible apply fr_M_tell | with_reducible apply fr_M_call | with_reducible apply fr_M_build | with_reducible apply fr_M_turn_l175 | with_reducible apply fr_M_turn_l38 | with_reducible apply fr_M_turn | with_reducible apply fr_M_building | split)
theorem fr_M_value {ν μ : mMem} (a1 : Int32) (h : keeps kM ν μ) : keeps kM ν (f_M_value μ a1).2 := by
  unfold f_M_value
  try dsimp only [oC]
  repeat' (first | with_reducible assumption | exact (rfl : (_ : Bool) = _) | with_reducible apply keeps_I | with_reducible apply keeps_L | with_reducible apply keeps_rI | with_reducible apply keeps_rL | with_reducible apply fr_M_make | with_reducible apply fr_M_drop_l42 | with_reducible apply fr_M_drop | with_reducible apply fr_M_numbers_l21 | with_reducible apply fr_M_numbers | with_reducible apply fr_M_about_l20 | with_reducible apply fr_M_about | with_reducible apply fr_M_collect | with_reducible apply fr_M_collected | with_reducible apply fr_M_define | with_reducible apply fr_M_answer | with_reducible apply fr_M_fails | with_reducible apply fr_M_go | with_reducible apply fr_M_tell | with_reducible apply fr_M_call | with_reducible apply fr_M_build | with_reducible apply fr_M_turn_l175 | with_reducible apply fr_M_turn_l38 | with_reducible apply fr_M_turn | with_reducible apply fr_M_building | with_reducible apply fr_M_told | split)
theorem fr_M_count {ν μ : mMem} (a1 : Int32) (h : keeps kM ν μ) : keeps kM ν (f_M_count μ a1).2 := by
  unfold f_M_count
  try dsimp only [oC]
  repeat' (first | with_reducible assumption | exact (rfl : (_ : Bool) = _) | with_reducible apply keeps_I | with_reducible apply keeps_L | with_reducible apply keeps_rI | with_reducible apply keeps_rL | with_reducible apply fr_M_make | with_reducible apply fr_M_drop_l42 | with_reducible apply fr_M_drop | with_reducible apply fr_M_numbers_l21 | with_reducible apply fr_M_numbers | with_reducible apply fr_M_about_l20 | with_reducible apply fr_M_about | with_reducible apply fr_M_collect | with_reducible apply fr_M_collected | with_reducible apply fr_M_define | with_reducible apply fr_M_answer | with_reducible apply fr_M_fails | with_reducible apply fr_M_go | with_reducible apply fr_M_tell | with_reducible apply fr_M_call | with_reducible apply fr_M_build | with_reducible apply fr_M_turn_l175 | with_reducible apply fr_M_turn_l38 | with_reducible apply fr_M_turn | with_reducible apply fr_M_building | with_reducible apply fr_M_told | with_reducible apply fr_M_value | split)
theorem fr_P_begin {ν μ : mMem} (i0 : Nat) (a1 : Int32) (a2 : Int32) (a3 : Int64) (a4 : Int64) (h : keeps k1 ν μ) : keeps k1 ν (f_P_begin μ i0 a1 a2 a3 a4) := by
  unfold f_P_begin
  try dsimp only [oC, nThing, nBuild, nPart]
  repeat' (first | with_reducible assumption | exact (rfl : (_ : Bool) = _) | with_reducible apply keeps_I | with_reducible apply keeps_L | with_reducible apply keeps_rI | with_reducible apply keeps_rL | with_reducible apply fr_X_keep | split)
theorem fr_X_make {ν μ : mMem} (a1 : Int32) (a2 : Int32) (h : keeps k1 ν μ) : keeps k1 ν (f_X_make μ a1 a2).2 := by
  unfold f_X_make
  try dsimp only [oC, nThing, nBuild, nPart]
  repeat' (first | with_reducible assumption | exact (rfl : (_ : Bool) = _) | with_reducible apply keeps_I | with_reducible apply keeps_L | with_reducible apply keeps_rI | with_reducible apply keeps_rL | with_reducible apply fr_X_keep | with_reducible apply fr_P_begin | split)
theorem fr_X_define {ν μ : mMem} (a1 : Int32) (a2 : Int32) (a3 : Int32) (a4 : Int64) (a5 : Int64) (h : keeps k1 ν μ) : keeps k1 ν (f_X_define μ a1 a2 a3 a4 a5).2 := by
  unfold f_X_define
  try dsimp only [oC, nThing, nBuild, nPart]
  repeat' (first | with_reducible assumption | exact (rfl : (_ : Bool) = _) | with_reducible apply keeps_I | with_reducible apply keeps_L | with_reducible apply keeps_rI | with_reducible apply keeps_rL | with_reducible apply fr_X_keep | with_reducible apply fr_P_begin | with_reducible apply fr_X_make | split)
