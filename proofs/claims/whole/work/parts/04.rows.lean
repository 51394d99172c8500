def tLies : Nat → Int32 := fun j => match j with
  | 0 => -1
  | 1 => 0
  | 2 => 0
  | 3 => 1
  | 4 => 3
  | 5 => 3
  | 6 => 0
  | 7 => 6
  | _ => 0
def tMost : Nat → Int32 := fun j => match j with
  | 0 => 30
  | _ => 20
def nwF : List (String × Nat × String × String × String × String) := [(R_C, 7, R_X, "MOST_COLLECTED", "[I", R_X), (R_X, 57, R_T, "kind", "I", R_X), (R_X, 64, R_T, "build", "LBuildCounter$Build;", R_X), (R_X, 72, R_T, "house", "I", R_X), (R_X, 79, R_T, "in", "I", R_X), (R_X, 115, R_P, "answers", "I", R_X), (R_X, 128, R_P, "kind", "I", R_X), (R_X, 139, R_P, "wants", "I", R_X), (R_X, 189, R_B, "turnsLeft", "I", R_X), (R_X, 192, R_B, "waiting", "I", R_X), (R_X, 198, R_O, "fates", "[I", R_X), (R_X, 201, R_O, "numbers", "[I", R_X), (R_X, 204, R_O, "calls", "[I", R_X), (R_X, 207, R_O, "values", "[J", R_X), (R_X, 211, R_O, "inAll", "I", R_X), (R_X, 214, R_O, "answered", "I", R_X), (R_X, 217, R_O, "failed", "I", R_X), (R_X, 220, R_O, "refused", "I", R_X), (R_X, 223, R_O, "cameToWait", "I", R_X), (R_X, 229, R_P, "low", "J", R_X), (R_X, 233, R_P, "high", "J", R_X), (R_X, 248, R_B, "calls", "[I", R_X), (R_X, 249, R_B, "numbers", "[I", R_X), (R_X, 250, R_B, "ws", "[J", R_X), (R_X, 122, R_P, "failureSort", "I", R_X), (R_X, 125, R_P, "failuresDue", "I", R_X)]
def nwM : List (String × Nat × MethodName × String) := [(R_X, 45, y_B_init, R_X), (R_X, 106, y_P_init, R_X), (R_X, 21, y_C_init, R_X), (R_X, 34, y_O_init, R_X), (R_C, 22, y_X_isSort, R_X)]
theorem kn0 : (R_C, 7, R_X, "MOST_COLLECTED", "[I", R_X) ∈ nwF := List.mem_of_getElem? (i := 0) rfl
theorem kn6 : (R_X, 57, R_T, "kind", "I", R_X) ∈ nwF := List.mem_of_getElem? (i := 1) rfl
theorem kn7 : (R_X, 64, R_T, "build", "LBuildCounter$Build;", R_X) ∈ nwF := List.mem_of_getElem? (i := 2) rfl
theorem kn8 : (R_X, 72, R_T, "house", "I", R_X) ∈ nwF := List.mem_of_getElem? (i := 3) rfl
theorem kn9 : (R_X, 79, R_T, "in", "I", R_X) ∈ nwF := List.mem_of_getElem? (i := 4) rfl
theorem kn10 : (R_X, 115, R_P, "answers", "I", R_X) ∈ nwF := List.mem_of_getElem? (i := 5) rfl
theorem kn11 : (R_X, 128, R_P, "kind", "I", R_X) ∈ nwF := List.mem_of_getElem? (i := 6) rfl
theorem kn12 : (R_X, 139, R_P, "wants", "I", R_X) ∈ nwF := List.mem_of_getElem? (i := 7) rfl
theorem kn13 : (R_X, 189, R_B, "turnsLeft", "I", R_X) ∈ nwF := List.mem_of_getElem? (i := 8) rfl
theorem kn14 : (R_X, 192, R_B, "waiting", "I", R_X) ∈ nwF := List.mem_of_getElem? (i := 9) rfl
theorem kn15 : (R_X, 198, R_O, "fates", "[I", R_X) ∈ nwF := List.mem_of_getElem? (i := 10) rfl
theorem kn16 : (R_X, 201, R_O, "numbers", "[I", R_X) ∈ nwF := List.mem_of_getElem? (i := 11) rfl
theorem kn17 : (R_X, 204, R_O, "calls", "[I", R_X) ∈ nwF := List.mem_of_getElem? (i := 12) rfl
theorem kn18 : (R_X, 207, R_O, "values", "[J", R_X) ∈ nwF := List.mem_of_getElem? (i := 13) rfl
theorem kn19 : (R_X, 211, R_O, "inAll", "I", R_X) ∈ nwF := List.mem_of_getElem? (i := 14) rfl
theorem kn20 : (R_X, 214, R_O, "answered", "I", R_X) ∈ nwF := List.mem_of_getElem? (i := 15) rfl
theorem kn21 : (R_X, 217, R_O, "failed", "I", R_X) ∈ nwF := List.mem_of_getElem? (i := 16) rfl
theorem kn22 : (R_X, 220, R_O, "refused", "I", R_X) ∈ nwF := List.mem_of_getElem? (i := 17) rfl
theorem kn23 : (R_X, 223, R_O, "cameToWait", "I", R_X) ∈ nwF := List.mem_of_getElem? (i := 18) rfl
theorem kn24 : (R_X, 229, R_P, "low", "J", R_X) ∈ nwF := List.mem_of_getElem? (i := 19) rfl
theorem kn25 : (R_X, 233, R_P, "high", "J", R_X) ∈ nwF := List.mem_of_getElem? (i := 20) rfl
theorem kn26 : (R_X, 248, R_B, "calls", "[I", R_X) ∈ nwF := List.mem_of_getElem? (i := 21) rfl
theorem kn27 : (R_X, 249, R_B, "numbers", "[I", R_X) ∈ nwF := List.mem_of_getElem? (i := 22) rfl
theorem kn28 : (R_X, 250, R_B, "ws", "[J", R_X) ∈ nwF := List.mem_of_getElem? (i := 23) rfl
theorem kn29 : (R_X, 122, R_P, "failureSort", "I", R_X) ∈ nwF := List.mem_of_getElem? (i := 24) rfl
theorem kn30 : (R_X, 125, R_P, "failuresDue", "I", R_X) ∈ nwF := List.mem_of_getElem? (i := 25) rfl
theorem kn1 : (R_X, 45, y_B_init, R_X) ∈ nwM := List.mem_of_getElem? (i := 0) rfl
theorem kn2 : (R_X, 106, y_P_init, R_X) ∈ nwM := List.mem_of_getElem? (i := 1) rfl
theorem kn3 : (R_X, 21, y_C_init, R_X) ∈ nwM := List.mem_of_getElem? (i := 2) rfl
theorem kn4 : (R_X, 34, y_O_init, R_X) ∈ nwM := List.mem_of_getElem? (i := 3) rfl
theorem kn5 : (R_C, 22, y_X_isSort, R_X) ∈ nwM := List.mem_of_getElem? (i := 4) rfl
/-! What the tables say, and the rows of the machine over the one memory. -/
def gG : List Cond := lw_tbl.filter goodWord
theorem gG_in {w : Cond} (h : w ∈ lw_tbl) (hg : goodWord w = true) : w ∈ gG := List.mem_filter.mpr ⟨h, hg⟩
theorem gG_good {w0 w1 : Cond} (h : w1 ∈ gG) : GoodIn (w0 :: gG) (w1 :: gG) := by
  intro w hw
  rcases List.mem_cons.mp hw with e | hw
  · subst e
    exact ⟨List.mem_cons_of_mem _ h, good_of_word (List.mem_filter.mp h).2⟩
  · exact ⟨List.mem_cons_of_mem _ hw, good_of_word (List.mem_filter.mp hw).2⟩
theorem gG_self {w1 : Cond} (h : w1 ∈ gG) : GoodIn gG (w1 :: gG) := by
  intro w hw
  rcases List.mem_cons.mp hw with e | hw
  · subst e
    exact ⟨h, good_of_word (List.mem_filter.mp h).2⟩
  · exact ⟨hw, good_of_word (List.mem_filter.mp hw).2⟩
abbrev mTy (cT : Nat → ClassId) : List (ClassId × FieldType) := [(cT 0, .int), (cT 1, .long), (cT 2, .boolean), (cT 3, .object R_T), (cT 4, .object R_P)]
/-- a static table of ints of the class, at its place below lo -/
def mTab (G : mG) (n : String) (N : Nat) (f : Nat → Int32) (U : State) : Prop := ∃ t : Nat, va_Z R_X n "[I" (.ref t) (fun q => G.2.2.1 ≤ q) U G.2.2.2 ∧ va_T .int t N (fun j => .int (f j)) (fun q => G.2.2.1 ≤ q) U G.2.2.2
theorem mTab.moved {G : mG} {n : String} {N : Nat} {f : Nat → Int32} {u U : State} (hvm : u.vm.Alike U.vm) (h : mTab G n N f u) : mTab G n N f U := by
  obtain ⟨t, h1, h2⟩ := h
  exact ⟨t, h1.moved hvm, h2.moved hvm⟩
def mT (G : mG) (U : State) : Prop := va_K G.1 vwCl (mTy G.2.1) U ∧ (∀ q ∈ nwF, va_Nw (.fieldLinkNest q.1 q.2.1 q.2.2.1 q.2.2.2.1 q.2.2.2.2.1 q.2.2.2.2.2) U) ∧ (∀ q ∈ nwM, va_Nw (.methodLinkNest q.1 q.2.1 q.2.2.1 q.2.2.2) U) ∧ mTab G "LIES_IN" 9 tLies U ∧ mTab G "MOST_COLLECTED" 3 tMost U
theorem mT.warm {G : mG} {s U : State} (hW : s.WarmedH U.vm) (h : mT G s) : mT G U := ⟨va_K.moved hW.alike h.1, fun q hq => va_Nw.warmF hW (h.2.1 q hq), fun q hq => va_Nw.warmM hW (h.2.2.1 q hq), h.2.2.2.1.moved hW.alike, h.2.2.2.2.moved hW.alike⟩
theorem mT.same {G : mG} {s U : State} (hvm : s.vm = U.vm) (h : mT G s) : mT G U := ⟨va_K.moved (by rw [hvm]; exact Vm.Alike.refl U.vm) h.1, fun q hq => va_Nw.same rfl hvm (h.2.1 q hq), fun q hq => va_Nw.same rfl hvm (h.2.2.1 q hq), h.2.2.2.1.moved (by rw [hvm]; exact Vm.Alike.refl U.vm), h.2.2.2.2.moved (by rw [hvm]; exact Vm.Alike.refl U.vm)⟩
/-- a method's start and end -/
def mPc (G : mG) (τ : mTau) (μ : mMem) (av : List Value) : Array Value → State → Prop := fun v U => v = av.toArray ∧ mT G U ∧ mw G τ μ U.heap []
def mQ (G : mG) (τ : mTau) (v : Option Value) (μ : mMem) : Array Value → State → Outcome → State → Prop := fun _ _ oc t => oc = .returned v ∧ mw G τ μ t.heap []
/-- an answer that is a cell of role rr, or null -/
def mQo (G : mG) (τ : mTau) (rr : Nat) (o : Option Nat) (μ : mMem) : Array Value → State → Outcome → State → Prop := fun _ _ oc t => oc = .returned (some (va_rf (o.map (τ.1 rr)))) ∧ (∀ i, o = some i → τ.2 rr i) ∧ mw G τ μ t.heap []
theorem mPc.blind {G : mG} {τ : mTau} {μ : mMem} {av : List Value} : FrameBlind (mPc G τ μ av) := fun a U g mk q => ⟨q.1, q.2.1.same rfl, q.2.2⟩
section ROWS
variable {p : Program} {l : Launch} {e : Env} {R : Room} {s : State} {m : MethodId} {args : Array Value} {below : List Frame} {meth : Method} {c : Code} {H : Heap} {locs : List Loc} {cells slots : Nat} {Q : State → Prop}
variable {cc : ByteArray} {pc : Nat} {ls : Array Slot} {rest : List Value} {G : mG} {τ : mTau} {μ : mMem}
theorem mPc.pre {av : List Value} (hT : mT G s) (hM : mw G τ μ H locs) : ∀ U : State, U.heap = H → s.WarmedH U.vm → mPc G τ μ av av.toArray U := fun U hU hW => ⟨rfl, hT.warm hW, hM.end hU⟩
theorem mw_get (hx : p.tables.exec = Jvm.exec) (hb : c.code = cc) {own C : String} {T : u_T} {N ci index : Nat} (hts : ∀ w ∈ gG, w.before args s = true) (hin : ∀ w ∈ u_ws C T N, w ∈ gG) (hown : s.vm.findClass own = some m.cls) (hT : mT G s) (hM : mw G τ μ H locs) {r i : Nat} {fs : List Value} (hl : τ.2 r i) (he : mE G.2.1 τ.1 r i (μ.1 r i) (μ.2 r i) = .inr (ci, fs)) (hc : vwCl[ci]? = some (C, T, N)) (k : Nat) (hk : k < N) (hlink : Cond.fieldLink own index (T k).1 (T k).2.1 (T k).2.2.1 ∈ gG) {v : Value} (hv : fs[k]? = some v) (hdg : decode cc pc = .ok (.getfield index, 3))
    (kk : W p l e R s m args below meth c H locs cells slots Q (F0 m (pc + 3) ls (v :: rest))) : W p l e R s m args below meth c H locs cells slots Q (F0 m pc ls (.ref (τ.1 r i) :: rest)) :=
  va_get hx hb hts hin hown hT.1 (mP1 (hM.at hl he)) 0 rfl hc k hk (hts _ hlink) (fun _ h9 => h9) hv hdg kk
theorem mw_getN (hx : p.tables.exec = Jvm.exec) (hb : c.code = cc) {own C host : String} {T : u_T} {N ci index : Nat} (hts : ∀ w ∈ gG, w.before args s = true) (hin : ∀ w ∈ u_ws C T N, w ∈ gG) (hown : s.vm.findClass own = some m.cls) (hT : mT G s) (hM : mw G τ μ H locs) {r i : Nat} {fs : List Value} (hl : τ.2 r i) (he : mE G.2.1 τ.1 r i (μ.1 r i) (μ.2 r i) = .inr (ci, fs)) (hc : vwCl[ci]? = some (C, T, N)) (k : Nat) (hk : k < N) (hlink : (own, index, (T k).1, (T k).2.1, (T k).2.2.1, host) ∈ nwF) {v : Value} (hv : fs[k]? = some v) (hdg : decode cc pc = .ok (.getfield index, 3))
    (kk : W p l e R s m args below meth c H locs cells slots Q (F0 m (pc + 3) ls (v :: rest))) : W p l e R s m args below meth c H locs cells slots Q (F0 m pc ls (.ref (τ.1 r i) :: rest)) :=
  va_getN hx hb hts hin hown hT.1 (mP1 (hM.at hl he)) 0 rfl hc k hk (va_Nw.use rfl (hT.2.1 _ hlink)) (fun _ h9 => h9) hv hdg kk
theorem mw_put (hx : p.tables.exec = Jvm.exec) (hb : c.code = cc) {own C : String} {T : u_T} {N ci index : Nat} (hts : ∀ w ∈ gG, w.before args s = true) (hin : ∀ w ∈ u_ws C T N, w ∈ gG) (ty0 : Nat → FieldType) (hty : ∀ k, k < N → parseFieldDescriptor (T k).2.2.1 = some (ty0 k)) (hnm : ∀ a, a < N → ∀ b, b < N → a ≠ b → (T a).2.1 ≠ (T b).2.1) (hown : s.vm.findClass own = some m.cls) (hT : mT G s) (hM : mw G τ μ H locs) {r i : Nat} {fs : List Value} (hl : τ.2 r i) (he : mE G.2.1 τ.1 r i (μ.1 r i) (μ.2 r i) = .inr (ci, fs)) (hc : vwCl[ci]? = some (C, T, N)) (k : Nat) (hk : k < N) (hlink : Cond.fieldLink own index (T k).1 (T k).2.1 (T k).2.2.1 ∈ gG) (hfin : (T k).2.2.2 = false) {ty : FieldType} {v : Value} (hd : parseFieldDescriptor (T k).2.2.1 = some ty) (hn : narrow ty v = v) (hfit : fits ty v = true) (hlen : k < fs.length) (μ' : mMem) (ho : mOff μ μ' r i) (hk' : mK τ μ') (he' : mE G.2.1 τ.1 r i (μ'.1 r i) (μ'.2 r i) = .inr (ci, fs.set k v))
    (hdg : decode cc pc = .ok (.putfield index, 3)) (kk : ∀ (μ1 : mMem) (H1 : Heap) (locs1 : List Loc), μ1 = μ' → mw G τ μ1 H1 locs1 → W p l e R s m args below meth c H1 locs1 cells slots Q (F0 m (pc + 3) ls rest)) : W p l e R s m args below meth c H locs cells slots Q (F0 m pc ls (v :: .ref (τ.1 r i) :: rest)) := by
  have hap := va_apart (own := own) hts hin ty0 hty hnm hT.1 hc
  obtain ⟨r0, h1, cell, q1, q2, q3, q4⟩ := hM.at hl he
  have hr : r0 = (C, T, N) := Option.some.inj (h1.symm.trans hc)
  subst hr
  obtain ⟨hS, hfc, kC, hkC, hkind⟩ := hT.1.1 ci _ hc
  obtain ⟨cf, kf, fi, f, hi, hsl⟩ := hS k hk
  have hlay := hts _ (hin _ (u_in_lay hk))
  unfold u_lay at hlay
  rw [if_neg (by rw [hfin]; decide)] at hlay
  have hst := (u_facts hfc hkC (u_lays hts hin hk) hi).1
  have h6 := u_store hfc hkC hkind hlay hi hd hn hfit
  refine W.putK hx hb (f := f) ⟨hown, hts _ hlink, ⟨_, _, _, hi⟩, hst⟩ (by rw [q2]; exact h6) q1 q3 (by rw [hsl]; exact k2_hasslot (q4 k hk)) rfl rfl hdg fun H' e1 e2 e3 => ?_
  rw [hsl] at e1 ⊢
  refine kk μ' H' _ rfl (hM.set hl ho hk' ?_ e2 e3)
  rw [he']
  exact ⟨_, hc, t_OB.to (V := updV (vp_V fs) k v) ⟨_, e1, q2, q3, t_set q4 hap hk v⟩ (fun j _ => vp_updV_set hlen v j)⟩
theorem mw_putN (hx : p.tables.exec = Jvm.exec) (hb : c.code = cc) {own C host : String} {T : u_T} {N ci index : Nat} (hts : ∀ w ∈ gG, w.before args s = true) (hin : ∀ w ∈ u_ws C T N, w ∈ gG) (ty0 : Nat → FieldType) (hty : ∀ k, k < N → parseFieldDescriptor (T k).2.2.1 = some (ty0 k)) (hnm : ∀ a, a < N → ∀ b, b < N → a ≠ b → (T a).2.1 ≠ (T b).2.1) (hown : s.vm.findClass own = some m.cls) (hT : mT G s) (hM : mw G τ μ H locs) {r i : Nat} {fs : List Value} (hl : τ.2 r i) (he : mE G.2.1 τ.1 r i (μ.1 r i) (μ.2 r i) = .inr (ci, fs)) (hc : vwCl[ci]? = some (C, T, N)) (k : Nat) (hk : k < N) (hlink : (own, index, (T k).1, (T k).2.1, (T k).2.2.1, host) ∈ nwF) (hfin : (T k).2.2.2 = false) {ty : FieldType} {v : Value} (hd : parseFieldDescriptor (T k).2.2.1 = some ty) (hn : narrow ty v = v) (hfit : fits ty v = true) (hlen : k < fs.length) (μ' : mMem) (ho : mOff μ μ' r i) (hk' : mK τ μ') (he' : mE G.2.1 τ.1 r i (μ'.1 r i) (μ'.2 r i) = .inr (ci, fs.set k v))
    (hdg : decode cc pc = .ok (.putfield index, 3)) (kk : ∀ (μ1 : mMem) (H1 : Heap) (locs1 : List Loc), μ1 = μ' → mw G τ μ1 H1 locs1 → W p l e R s m args below meth c H1 locs1 cells slots Q (F0 m (pc + 3) ls rest)) : W p l e R s m args below meth c H locs cells slots Q (F0 m pc ls (v :: .ref (τ.1 r i) :: rest)) := by
  have hap := va_apart (own := own) hts hin ty0 hty hnm hT.1 hc
  obtain ⟨r0, h1, cell, q1, q2, q3, q4⟩ := hM.at hl he
  have hr : r0 = (C, T, N) := Option.some.inj (h1.symm.trans hc)
  subst hr
  obtain ⟨hS, hfc, kC, hkC, hkind⟩ := hT.1.1 ci _ hc
  obtain ⟨cf, kf, fi, f, hi, hsl⟩ := hS k hk
  have hlay := hts _ (hin _ (u_in_lay hk))
  unfold u_lay at hlay
  rw [if_neg (by rw [hfin]; decide)] at hlay
  have hst := (u_facts hfc hkC (u_lays hts hin hk) hi).1
  have h6 := u_store hfc hkC hkind hlay hi hd hn hfit
  refine va_WputK hx hb (f := f) hown (va_Nw.use rfl (hT.2.1 _ hlink)) hi hst (by rw [q2]; exact h6) q1 q3 (by rw [hsl]; exact k2_hasslot (q4 k hk)) rfl rfl hdg fun H' e1 e2 e3 => ?_
  rw [hsl] at e1 ⊢
  refine kk μ' H' _ rfl (hM.set hl ho hk' ?_ e2 e3)
  rw [he']
  exact ⟨_, hc, t_OB.to (V := updV (vp_V fs) k v) ⟨_, e1, q2, q3, t_set q4 hap hk v⟩ (fun j _ => vp_updV_set hlen v j)⟩
theorem mw_iald (hx : p.tables.exec = Jvm.exec) (hb : c.code = cc) (hT : mT G s) (hM : mw G τ μ H locs) {r i n : Nat} (hl : τ.2 r i) (he : mE G.2.1 τ.1 r i (μ.1 r i) (μ.2 r i) = .inl (G.2.1 0, n, .inl (μ.1 r i))) {j : Int32} (hin : vp_in j n) (hdg : decode cc pc = .ok (.iaload, 1))
    (kk : W p l e R s m args below meth c H locs cells slots Q (F0 m (pc + 1) ls (.int (μ.1 r i j.toNatClampNeg) :: rest))) : W p l e R s m args below meth c H locs cells slots Q (F0 m pc ls (.int j :: .ref (τ.1 r i) :: rest)) :=
  va_iald hx hb hT.1 (mP1 (hM.at hl he)) 0 0 rfl rfl hin hdg kk
theorem mw_zald (hx : p.tables.exec = Jvm.exec) (hb : c.code = cc) (hT : mT G s) (hM : mw G τ μ H locs) {r i n : Nat} (hl : τ.2 r i) (he : mE G.2.1 τ.1 r i (μ.1 r i) (μ.2 r i) = .inl (G.2.1 2, n, .inl (μ.1 r i))) {j : Int32} (hin : vp_in j n) (hdg : decode cc pc = .ok (.baload, 1))
    (kk : W p l e R s m args below meth c H locs cells slots Q (F0 m (pc + 1) ls (.int (μ.1 r i j.toNatClampNeg) :: rest))) : W p l e R s m args below meth c H locs cells slots Q (F0 m pc ls (.int j :: .ref (τ.1 r i) :: rest)) :=
  va_zald hx hb hT.1 (mP1 (hM.at hl he)) 0 2 rfl rfl hin hdg kk
theorem mw_lald (hx : p.tables.exec = Jvm.exec) (hb : c.code = cc) (hT : mT G s) (hM : mw G τ μ H locs) {r i n : Nat} (hl : τ.2 r i) (he : mE G.2.1 τ.1 r i (μ.1 r i) (μ.2 r i) = .inl (G.2.1 1, n, .inr (.inl (μ.2 r i)))) {j : Int32} (hin : vp_in j n) (hdg : decode cc pc = .ok (.laload, 1))
    (kk : W p l e R s m args below meth c H locs cells slots Q (F0 m (pc + 1) ls (.long (μ.2 r i j.toNatClampNeg) :: rest))) : W p l e R s m args below meth c H locs cells slots Q (F0 m pc ls (.int j :: .ref (τ.1 r i) :: rest)) :=
  va_lald hx hb hT.1 (mP1 (hM.at hl he)) 0 1 rfl rfl hin hdg kk
theorem mw_iast (hx : p.tables.exec = Jvm.exec) (hb : c.code = cc) (hT : mT G s) (hM : mw G τ μ H locs) {r i n : Nat} (hl : τ.2 r i) (h1 : r ≠ 1) (h2 : r ≠ 2) (h3 : r ≠ 10) (he : ∀ (f : Nat → Int32) (g : Nat → Int64), mE G.2.1 τ.1 r i f g = .inl (G.2.1 0, n, .inl f)) {j x : Int32} (hin : vp_in j n) (hdg : decode cc pc = .ok (.iastore, 1))
    (kk : ∀ (μ1 : mMem) (H1 : Heap) (locs1 : List Loc), μ1 = sI μ r i j.toNatClampNeg x → mw G τ μ1 H1 locs1 → W p l e R s m args below meth c H1 locs1 cells slots Q (F0 m (pc + 1) ls rest)) : W p l e R s m args below meth c H locs cells slots Q (F0 m pc ls (.int x :: .int j :: .ref (τ.1 r i) :: rest)) := by
  refine W.iast hx hb (hM.at hl (he _ _)) ((hT.1.2 0 _ rfl).1 n (fun j => .int (μ.1 r i j))) (fun q => by cases q) (by show ¬ (j < 0 ∨ (arrV _ _ _).slots.size ≤ _); rw [arrV_size]; exact hin) rfl rfl hdg fun H1 e z oq => ?_
  refine kk _ H1 _ rfl (hM.set hl (mOff_I _ _ _ _ _) (mK_I hM.k h1 h2 h3) ?_ z oq)
  rw [he, sI_row]
  show H1[τ.1 r i]? = some (vp_cell _ _)
  rw [e]
  rw [vp_cell_i, vp_cell_i, arrV_store]
  congr 2
  funext q
  by_cases hq : q = j.toNatClampNeg
  · subst hq
    simp [updV, upd]
  · simp [updV, upd, hq]
theorem mw_zast (hx : p.tables.exec = Jvm.exec) (hb : c.code = cc) (hT : mT G s) (hM : mw G τ μ H locs) {r i n : Nat} (hl : τ.2 r i) (h1 : r ≠ 1) (h2 : r ≠ 2) (h3 : r ≠ 10) (he : ∀ (f : Nat → Int32) (g : Nat → Int64), mE G.2.1 τ.1 r i f g = .inl (G.2.1 2, n, .inl f)) {j x : Int32} (hnx : narrow .boolean (.int x) = .int x) (hin : vp_in j n) (hdg : decode cc pc = .ok (.bastore, 1))
    (kk : ∀ (μ1 : mMem) (H1 : Heap) (locs1 : List Loc), μ1 = sI μ r i j.toNatClampNeg x → mw G τ μ1 H1 locs1 → W p l e R s m args below meth c H1 locs1 cells slots Q (F0 m (pc + 1) ls rest)) : W p l e R s m args below meth c H locs cells slots Q (F0 m pc ls (.int x :: .int j :: .ref (τ.1 r i) :: rest)) := by
  refine W.zast hx hb (hM.at hl (he _ _)) ((hT.1.2 2 _ rfl).1 n (fun j => .int (μ.1 r i j))) (fun q => by cases q) (by show ¬ (j < 0 ∨ (arrV _ _ _).slots.size ≤ _); rw [arrV_size]; exact hin) rfl rfl hdg fun H1 e z oq => ?_
  refine kk _ H1 _ rfl (hM.set hl (mOff_I _ _ _ _ _) (mK_I hM.k h1 h2 h3) ?_ z oq)
  rw [he, sI_row]
  show H1[τ.1 r i]? = some (vp_cell _ _)
  rw [e, hnx]
  rw [vp_cell_i, vp_cell_i, arrV_store]
  congr 2
  funext q
  by_cases hq : q = j.toNatClampNeg
  · subst hq
    simp [updV, upd]
  · simp [updV, upd, hq]
theorem mw_last (hx : p.tables.exec = Jvm.exec) (hb : c.code = cc) (hT : mT G s) (hM : mw G τ μ H locs) {r i n : Nat} (hl : τ.2 r i) (he : ∀ (f : Nat → Int32) (g : Nat → Int64), mE G.2.1 τ.1 r i f g = .inl (G.2.1 1, n, .inr (.inl g))) {j : Int32} {x : Int64} (hin : vp_in j n) (hdg : decode cc pc = .ok (.lastore, 1))
    (kk : ∀ (μ1 : mMem) (H1 : Heap) (locs1 : List Loc), μ1 = sL μ r i j.toNatClampNeg x → mw G τ μ1 H1 locs1 → W p l e R s m args below meth c H1 locs1 cells slots Q (F0 m (pc + 1) ls rest)) : W p l e R s m args below meth c H locs cells slots Q (F0 m pc ls (.long x :: .int j :: .ref (τ.1 r i) :: rest)) := by
  refine W.last hx hb (hM.at hl (he _ _)) ((hT.1.2 1 _ rfl).1 n (fun j => .long (μ.2 r i j))) (fun q => by cases q) (by show ¬ (j < 0 ∨ (arrV _ _ _).slots.size ≤ _); rw [arrV_size]; exact hin) rfl rfl hdg fun H1 e z oq => ?_
  refine kk _ H1 _ rfl (hM.set hl (mOff_L _ _ _ _ _) (mK_L hM.k) ?_ z oq)
  rw [he, sL_row]
  show H1[τ.1 r i]? = some (vp_cell _ _)
  rw [e]
  rw [vp_cell_l, vp_cell_l, arrV_store]
  congr 2
  funext q
  by_cases hq : q = j.toNatClampNeg
  · subst hq
    simp [updV, vp_updL]
  · simp [updV, vp_updL, hq]
theorem mw_call {v : Option Value} {μ' : mMem} {st0 : List Value} {a : Array Value} {mc ms : Nat} (hM : mw G τ μ H locs) (hr : va_Run p l e R s m args below meth c H locs cells slots mc ms (F0 m pc ls st0) rest (mQ G τ v μ' a) (fun q => G.2.2.1 ≤ q))
    (kk : ∀ (H1 : Heap) (locs1 : List Loc), mw G τ μ' H1 locs1 → W p l e R s m args below meth c H1 locs1 (cells + mc) (slots + ms) Q (F0 m (pc + 3) ls (v.toList ++ rest))) : W p l e R s m args below meth c H locs cells slots Q (F0 m pc ls st0) := by
  intro T hT X
  obtain ⟨v1, st₀, t, T', L, h0, X', hL, e1, e2, ⟨hv, hm⟩, st⟩ := hr T hT X
  cases hv
  obtain ⟨t2, a1, b1⟩ := kk T'.heap (locs ++ L) ⟨by rw [e1]; exact hm.1, by rw [e1]; exact hm.2.1, fun q hq => by
    rcases List.mem_append.mp hq with h | h
    · exact hM.2.2.1 q h
    · exact hL q h, by rw [e1]; exact hm.2.2.2⟩ T' rfl X'
  exact ⟨t2, st t2 a1, b1⟩
theorem mw_callo {rr : Nat} {o : Option Nat} {μ' : mMem} {st0 : List Value} {a : Array Value} {mc ms : Nat} (hM : mw G τ μ H locs) (hr : va_Run p l e R s m args below meth c H locs cells slots mc ms (F0 m pc ls st0) rest (mQo G τ rr o μ' a) (fun q => G.2.2.1 ≤ q))
    (kn : ∀ (H1 : Heap) (locs1 : List Loc), mw G τ μ' H1 locs1 → o = none → W p l e R s m args below meth c H1 locs1 (cells + mc) (slots + ms) Q (F0 m (pc + 3) ls (.null :: rest)))
    (ks : ∀ (H1 : Heap) (locs1 : List Loc), mw G τ μ' H1 locs1 → ∀ i : Nat, o = some i → τ.2 rr i → W p l e R s m args below meth c H1 locs1 (cells + mc) (slots + ms) Q (F0 m (pc + 3) ls (.ref (τ.1 rr i) :: rest))) : W p l e R s m args below meth c H locs cells slots Q (F0 m pc ls st0) := by
  intro T hT X
  obtain ⟨v1, st₀, t, T', L, h0, X', hL, e1, e2, ⟨hv, hlv, hm⟩, st⟩ := hr T hT X
  cases hv
  have hm' : mw G τ μ' T'.heap (locs ++ L) := ⟨by rw [e1]; exact hm.1, by rw [e1]; exact hm.2.1, fun q hq => by
    rcases List.mem_append.mp hq with h | h
    · exact hM.2.2.1 q h
    · exact hL q h, by rw [e1]; exact hm.2.2.2⟩
  cases o with
  | none =>
    obtain ⟨t2, a1, b1⟩ := kn T'.heap (locs ++ L) hm' rfl T' rfl X'
    exact ⟨t2, st t2 a1, b1⟩
  | some i =>
    obtain ⟨t2, a1, b1⟩ := ks T'.heap (locs ++ L) hm' i rfl (hlv i rfl) T' rfl X'
    exact ⟨t2, st t2 a1, b1⟩
theorem mw_recv (hT : mT G s) (hM : mw G τ μ H locs) {r i ci : Nat} {q : vw_C} {fs : List Value} (hl : τ.2 r i) (he : mE G.2.1 τ.1 r i (μ.1 r i) (μ.2 r i) = .inr (ci, fs)) (hc : vwCl[ci]? = some q) : ∃ cell : Cell, H[τ.1 r i]? = some cell ∧ cell.vm.isStatics = false ∧ s.vm.findClass q.1 = some cell.cls :=
  va_recv hT.1 (mP1 (hM.at hl he)) hc (q0 := 0) rfl
/-- a static table is read -/
theorem mw_tget (hx : p.tables.exec = Jvm.exec) (hb : c.code = cc) {own n : String} {N index : Nat} {f : Nat → Int32} (hZ : mTab G n N f s) (hlo : ∀ q : Nat, q < G.2.2.1 → H[q]? = G.2.2.2[q]?) (hts : ∀ w ∈ gG, w.before args s = true) (hown : s.vm.findClass own = some m.cls) (hlink : Cond.fieldLink own index R_X n "[I" ∈ gG) (hdg : decode cc pc = .ok (.getstatic index, 3))
    (kk : ∀ t : Nat, va_T .int t N (fun j => .int (f j)) (fun q => G.2.2.1 ≤ q) s G.2.2.2 → W p l e R s m args below meth c H locs cells slots Q (F0 m (pc + 3) ls (.ref t :: rest))) : W p l e R s m args below meth c H locs cells slots Q (F0 m pc ls rest) := by
  obtain ⟨t, ⟨cf, kf, fi, f, a, cell, h1, h2, h3, h4, h5, h6, h7, h8⟩, hT⟩ := hZ
  exact W.gets hx hb hown (hts _ hlink) h1 h2 h3 h4 (by rw [hlo a (Nat.not_le.mp h8)]; exact h5) (fun e => by rw [e] at h6; cases h6) h7 rfl hdg (kk t hT)
theorem mw_tgetN (hx : p.tables.exec = Jvm.exec) (hb : c.code = cc) {own n host : String} {N index : Nat} {f : Nat → Int32} (hZ : mTab G n N f s) (hT : mT G s) (hlo : ∀ q : Nat, q < G.2.2.1 → H[q]? = G.2.2.2[q]?) (hown : s.vm.findClass own = some m.cls) (hlink : (own, index, R_X, n, "[I", host) ∈ nwF) (hdg : decode cc pc = .ok (.getstatic index, 3))
    (kk : ∀ t : Nat, va_T .int t N (fun j => .int (f j)) (fun q => G.2.2.1 ≤ q) s G.2.2.2 → W p l e R s m args below meth c H locs cells slots Q (F0 m (pc + 3) ls (.ref t :: rest))) : W p l e R s m args below meth c H locs cells slots Q (F0 m pc ls rest) := by
  obtain ⟨t, ⟨cf, kf, fi, f, a, cell, h1, h2, h3, h4, h5, h6, h7, h8⟩, hT2⟩ := hZ
  exact va_WgetsN hx hb hown (va_Nw.use rfl (hT.2.1 _ hlink)) h1 h2 h3 h4 (by rw [hlo a (Nat.not_le.mp h8)]; exact h5) (fun e => by rw [e] at h6; cases h6) h7 rfl hdg (kk t hT2)
theorem mw_tald (hx : p.tables.exec = Jvm.exec) (hb : c.code = cc) {t N : Nat} {f : Nat → Int32} (hT : va_T .int t N (fun j => .int (f j)) (fun q => G.2.2.1 ≤ q) s G.2.2.2) (hlo : ∀ q : Nat, q < G.2.2.1 → H[q]? = G.2.2.2[q]?) {i : Int32} (hin : vp_in i N) (hdg : decode cc pc = .ok (.iaload, 1))
    (kk : W p l e R s m args below meth c H locs cells slots Q (F0 m (pc + 1) ls (.int (f i.toNatClampNeg) :: rest))) : W p l e R s m args below meth c H locs cells slots Q (F0 m pc ls (.int i :: .ref t :: rest)) := by
  obtain ⟨cell, h1, h2, h3, h4, h5, h6, h7⟩ := hT
  have hlt : i.toNatClampNeg < N := Nat.not_le.mp fun q => hin (Or.inr q)
  have hin' : ¬ (i < 0 ∨ cell.slots.size ≤ i.toNatClampNeg) := by
    intro q
    rcases q with q | q
    · exact hin (Or.inl q)
    · omega
  exact W.iald (v := .int (f i.toNatClampNeg)) hx hb (by rw [hlo t (Nat.not_le.mp h7)]; exact h1) h2 h3 hin' (h6 _ hlt) rfl rfl hdg kk
theorem mw_tlen (hx : p.tables.exec = Jvm.exec) (hb : c.code = cc) {t N : Nat} {f : Nat → Value} (hT : va_T .int t N f (fun q => G.2.2.1 ≤ q) s G.2.2.2) (hlo : ∀ q : Nat, q < G.2.2.1 → H[q]? = G.2.2.2[q]?) {v : Int32} (hv : Int32.ofNat N = v) (hdg : decode cc pc = .ok (.arraylength, 1))
    (kk : W p l e R s m args below meth c H locs cells slots Q (F0 m (pc + 1) ls (.int v :: rest))) : W p l e R s m args below meth c H locs cells slots Q (F0 m pc ls (.ref t :: rest)) := by
  subst hv
  obtain ⟨cell, h1, h2, h3, h4, h5, h6, h7⟩ := hT
  exact W.alen (n := Int32.ofNat N) hx hb (by rw [hlo t (Nat.not_le.mp h7)]; exact h1) h2 h5 rfl rfl hdg kk
end ROWS
theorem vin (N : Nat) {x b : Int32} (hb : b.toInt = N) (h0 : ¬ x < 0) (h1 : ¬ b ≤ x) : vp_in x N := by
  rw [vp_in_iff]
  have h2 : ¬ x.toInt < 0 := fun h => h0 (Int32.lt_iff_toInt_lt.mpr h)
  have h3 : ¬ b.toInt ≤ x.toInt := fun h => h1 (Int32.le_iff_toInt_le.mpr h)
  omega
section REFS
variable {p : Program} {l : Launch} {e : Env} {R : Room} {s : State} {m : MethodId} {args : Array Value} {below : List Frame} {meth : Method} {c : Code} {H : Heap} {locs : List Loc} {cells slots : Nat} {Q : State → Prop}
variable {cc : ByteArray} {pc : Nat} {ls : Array Slot} {rest : List Value} {G : mG} {τ : mTau} {μ : mMem}
theorem mw_aald (hx : p.tables.exec = Jvm.exec) (hb : c.code = cc) (hT : mT G s) (hM : mw G τ μ H locs) {r i rr n tt : Nat} {C : String} (hl : τ.2 r i) (ht : (mTy G.2.1)[tt]? = some (G.2.1 tt, .object C)) (he : mE G.2.1 τ.1 r i (μ.1 r i) (μ.2 r i) = .inl (G.2.1 tt, n, .inr (.inr (.inr (.inr (fun j => if μ.1 r i j = 0 then none else some (τ.1 rr j))))))) (hlv : ∀ j, ¬ μ.1 r i j = 0 → τ.2 rr j) {j : Int32} (hin : vp_in j n) (hdg : decode cc pc = .ok (.aaload, 1))
    (kn : μ.1 r i j.toNatClampNeg = 0 → W p l e R s m args below meth c H locs cells slots Q (F0 m (pc + 1) ls (.null :: rest)))
    (ks : ¬ μ.1 r i j.toNatClampNeg = 0 → τ.2 rr j.toNatClampNeg → W p l e R s m args below meth c H locs cells slots Q (F0 m (pc + 1) ls (.ref (τ.1 rr j.toNatClampNeg) :: rest))) : W p l e R s m args below meth c H locs cells slots Q (F0 m pc ls (.int j :: .ref (τ.1 r i) :: rest)) := by
  refine va_aldq hx hb hT.1 (mP1 (hM.at hl he)) 0 tt rfl ht hin hdg ?_
  by_cases h : μ.1 r i j.toNatClampNeg = 0
  · rw [if_pos h]
    exact kn h
  · rw [if_neg h]
    exact ks h (hlv _ h)
theorem mw_astN (hx : p.tables.exec = Jvm.exec) (hb : c.code = cc) (hT : mT G s) (hM : mw G τ μ H locs) {r i rr n tt : Nat} {C : String} (hl : τ.2 r i) (ht : (mTy G.2.1)[tt]? = some (G.2.1 tt, .object C)) (he : ∀ (f : Nat → Int32) (g : Nat → Int64), mE G.2.1 τ.1 r i f g = .inl (G.2.1 tt, n, .inr (.inr (.inr (.inr (fun j => if f j = 0 then none else some (τ.1 rr j))))))) {j : Int32} (hk' : mK τ (sI μ r i j.toNatClampNeg 0)) (hin : vp_in j n) (hdg : decode cc pc = .ok (.aastore, 1))
    (kk : ∀ (μ1 : mMem) (H1 : Heap) (locs1 : List Loc), μ1 = sI μ r i j.toNatClampNeg 0 → mw G τ μ1 H1 locs1 → W p l e R s m args below meth c H1 locs1 cells slots Q (F0 m (pc + 1) ls rest)) : W p l e R s m args below meth c H locs cells slots Q (F0 m pc ls (.null :: .int j :: .ref (τ.1 r i) :: rest)) := by
  refine va_WaastN (C := C) hx hb (hM.at hl (he _ _)) ((hT.1.2 tt _ ht).1 n _) (fun h => by cases h) (by show ¬ (j < 0 ∨ (arrV _ _ _).slots.size ≤ _); rw [arrV_size]; exact hin) rfl rfl hdg fun H1 e z oq => ?_
  refine kk _ H1 _ rfl (hM.set hl (mOff_I _ _ _ _ _) hk' ?_ z oq)
  rw [he, sI_row]
  show H1[τ.1 r i]? = some (vp_cell _ _)
  rw [e]
  rw [vp_cell_q, vp_cell_q, arrV_store]
  congr 2
  funext q
  by_cases hq : q = j.toNatClampNeg
  · subst hq
    simp [updV, upd, va_rf]
  · simp [updV, upd, hq]
theorem mw_ast (hx : p.tables.exec = Jvm.exec) (hb : c.code = cc) (hT : mT G s) (hM : mw G τ μ H locs) {r i rr n tt ci : Nat} {q : vw_C} {fs : List Value} (hl : τ.2 r i) (ht : (mTy G.2.1)[tt]? = some (G.2.1 tt, .object q.1)) (he : ∀ (f : Nat → Int32) (g : Nat → Int64), mE G.2.1 τ.1 r i f g = .inl (G.2.1 tt, n, .inr (.inr (.inr (.inr (fun j => if f j = 0 then none else some (τ.1 rr j))))))) {j : Int32} {v : Nat} (hv : v = j.toNatClampNeg) (hlv : τ.2 rr v) (hev : mE G.2.1 τ.1 rr v (μ.1 rr v) (μ.2 rr v) = .inr (ci, fs)) (hc : vwCl[ci]? = some q) (hk' : mK τ (sI μ r i j.toNatClampNeg 1)) (hin : vp_in j n) (hdg : decode cc pc = .ok (.aastore, 1))
    (kk : ∀ (μ1 : mMem) (H1 : Heap) (locs1 : List Loc), μ1 = sI μ r i j.toNatClampNeg 1 → mw G τ μ1 H1 locs1 → W p l e R s m args below meth c H1 locs1 cells slots Q (F0 m (pc + 1) ls rest)) : W p l e R s m args below meth c H locs cells slots Q (F0 m pc ls (.ref (τ.1 rr v) :: .int j :: .ref (τ.1 r i) :: rest)) := by
  subst hv
  have hlt : j.toNatClampNeg < n := Nat.not_le.mp fun q => hin (Or.inr q)
  have h0 : ¬ j < 0 := fun q => hin (Or.inl q)
  obtain ⟨r', hr', cellV, g1, g2, g3, -⟩ := hM.at hlv hev
  have hcls := (hT.1.1 ci q hc).2
  obtain ⟨kA, comp, k1, k2, k3, -⟩ := (hT.1.2 tt _ ht).2
  have hcomp : comp = G.1.1 ci := Option.some.inj (k3.symm.trans hcls.1)
  subst hcomp
  obtain ⟨kC, hkC, -⟩ := hcls.2
  refine W.aast hx hb (hM.at hl (he _ _)) (fun q h => by cases h) (fun h => by cases h) k1 k2 rfl hkC ⟨h0, by show _ < (arrV _ _ _).slots.size; rw [arrV_size]; exact hlt⟩ g1 (fun q h => by rw [g3] at h; cases h) (by rw [g2]; exact hkC) (by rw [g2]; exact va_assign hcls) rfl rfl hdg fun H1 e z oq => ?_
  refine kk _ H1 _ rfl (hM.set hl (mOff_I _ _ _ _ _) hk' ?_ z oq)
  rw [he, sI_row]
  show H1[τ.1 r i]? = some (vp_cell _ _)
  rw [e]
  rw [vp_cell_q, vp_cell_q, arrV_store]
  congr 2
  funext q
  by_cases hq : q = j.toNatClampNeg
  · subst hq
    simp [updV, upd, va_rf]
  · simp [updV, upd, hq]
end REFS
