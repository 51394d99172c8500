set_option maxHeartbeats 4000000 in
set_option maxRecDepth 100000 in
theorem c_X_collect (l : Launch) (G : mG) (τ : mTau) (μ : mMem) (a1 : Int32) (a2 : Int32) : Met l y_X_collect w_X_collect r_X_collect (mPc G τ μ [.ref (τ.1 0 0), .int a1, .int a2]) (mQ G τ (some (.int (f_X_collect μ a1 a2).1)) (f_X_collect μ a1 a2).2) 0 0 (fun q => G.2.2.1 ≤ q) := by
  refine Met.ofW (cc := b_X_collect) (maxL := 3) (ret := (some .int)) (by decide) rfl ?_
  intro p e s m args below meth c s₁ B hml hv
  obtain ⟨rfl, hT, hM⟩ := hv
  have hx := B.exec
  have hb := B.bytes
  have hr := B.returns
  have hts : ∀ w ∈ gG, w.before _ s = true := fun w h => atoms_spec (ws := w_X_collect) B.pre w (List.mem_cons_of_mem _ h)
  have hown : s.vm.findClass R_X = some m.cls := findClass_of_methodNamed B.named
  have hlocks := B.notSynchronized
  have hl := lv_entry ([.ref (τ.1 0 0), .int a1, .int a2]) (n := 3) (Nat.le_of_ble_eq_true rfl)
  rw [lg_entry_eq]
  skip
  generalize (lg_sl ([.ref (τ.1 0 0), .int a1, .int a2]) ++ List.replicate (3 - (lg_sl ([.ref (τ.1 0 0), .int a1, .int a2])).length) Slot.unset).toArray = ls at hl ⊢
  have hl : lv_has ls 3 [(0, .ref (τ.1 0 0)), (1, .int a1), (2, .int a2)] := hl
  refine lv_iload_n hx hb d_X_collect_0 rfl (lv_at hl 1 rfl) ?_
  refine q_X_86 hx hb hml hown hts hT hM (c_X_isSort l G τ μ a1) ⟨Nat.le_of_ble_eq_true rfl, Nat.le_of_ble_eq_true rfl⟩ ⟨Nat.zero_le _, Nat.zero_le _⟩ (lv_room (Nat.le_of_ble_eq_true rfl)) hl.1 d_X_collect_1 (fun H locs hM => ?_)
  refine lv_if_eq (tgt := 26) hx hb d_X_collect_4 (by decide) (fun c_4 => ?_) (fun c_4 => ?_)
  · skip
    refine lv_iconst (v := (-1 : Int32)) hx hb d_X_collect_26 (by decide) ?_
    have e_f : f_X_collect μ a1 a2 = ((-1 : Int32), μ) := by
      exact (if_pos c_4).trans rfl
    rw [e_f]
    exact W.iret (v := (-1 : Int32)) hx hb hr (fun t ht hW => ⟨rfl, hM.end ht⟩) hM.2.2.1 d_X_collect_27
  · skip
    refine lv_iload_n hx hb d_X_collect_7 rfl (lv_at hl 1 rfl) ?_
    refine lv_iload_n hx hb d_X_collect_8 rfl (lv_at hl 2 rfl) ?_
    refine q_X_89 hx hb hml hown hts hT hM (c_X_fits l G τ μ a1 a2) ⟨Nat.le_of_ble_eq_true rfl, Nat.le_of_ble_eq_true rfl⟩ ⟨Nat.zero_le _, Nat.zero_le _⟩ (lv_room (Nat.le_of_ble_eq_true rfl)) hl.1 d_X_collect_9 (fun H locs hM => ?_)
    refine lv_if_eq (tgt := 26) hx hb d_X_collect_12 (by decide) (fun c_12 => ?_) (fun c_12 => ?_)
    · skip
      refine lv_iconst (v := (-1 : Int32)) hx hb d_X_collect_26 (by decide) ?_
      have e_f : f_X_collect μ a1 a2 = ((-1 : Int32), μ) := by
        exact (if_neg c_4).trans ((if_pos c_12).trans rfl)
      rw [e_f]
      exact W.iret (v := (-1 : Int32)) hx hb hr (fun t ht hW => ⟨rfl, hM.end ht⟩) hM.2.2.1 d_X_collect_27
    · skip
      refine lv_aload_n hx hb d_X_collect_15 rfl (lv_at hl 0 rfl) ?_
      refine gf_X_22 hx hb hts hown hT hM (lz_0 hM) d_X_collect_16 ?_
      refine lv_iload_n hx hb d_X_collect_19 rfl (lv_at hl 1 rfl) ?_
      refine q_X_93 hx hb hml hown hts hT hM (lz_7 hM) (c_C_isFull l G τ μ a1) ⟨Nat.le_of_ble_eq_true rfl, Nat.le_of_ble_eq_true rfl⟩ ⟨Nat.zero_le _, Nat.zero_le _⟩ (lv_room (Nat.le_of_ble_eq_true rfl)) hl.1 d_X_collect_20 (fun H locs hM => ?_)
      refine lv_if_eq (tgt := 28) hx hb d_X_collect_23 (by decide) (fun c_23 => ?_) (fun c_23 => ?_)
      · skip
        refine lv_aload_n hx hb d_X_collect_28 rfl (lv_at hl 0 rfl) ?_
        refine gf_X_22 hx hb hts hown hT hM (lz_0 hM) d_X_collect_29 ?_
        refine lv_iload_n hx hb d_X_collect_32 rfl (lv_at hl 1 rfl) ?_
        refine lv_iload_n hx hb d_X_collect_33 rfl (lv_at hl 2 rfl) ?_
        refine q_X_96 hx hb hml hown hts hT hM (lz_7 hM) (c_C_append l G τ μ a1 a2) ⟨Nat.le_of_ble_eq_true rfl, Nat.le_of_ble_eq_true rfl⟩ ⟨Nat.zero_le _, Nat.zero_le _⟩ (lv_room (Nat.le_of_ble_eq_true rfl)) hl.1 d_X_collect_34 (fun H locs hM => ?_)
        obtain ⟨m_34, e_34⟩ : ∃ z : mMem, z = (f_C_append μ a1 a2) := ⟨_, rfl⟩
        rw [← e_34] at hM
        refine lv_aload_n hx hb d_X_collect_37 rfl (lv_at hl 0 rfl) ?_
        refine gf_X_22 hx hb hts hown hT hM (lz_0 hM) d_X_collect_38 ?_
        refine lv_iload_n hx hb d_X_collect_41 rfl (lv_at hl 1 rfl) ?_
        refine q_X_100 hx hb hml hown hts hT hM (lz_7 hM) (c_C_size l G τ m_34 a1) ⟨Nat.le_of_ble_eq_true rfl, Nat.le_of_ble_eq_true rfl⟩ ⟨Nat.zero_le _, Nat.zero_le _⟩ (lv_room (Nat.le_of_ble_eq_true rfl)) hl.1 d_X_collect_42 (fun H locs hM => ?_)
        have e_f : f_X_collect μ a1 a2 = ((f_C_size m_34 a1), m_34) := by
          subst e_34
          exact (if_neg c_4).trans ((if_neg c_12).trans ((if_pos c_23).trans rfl))
        rw [e_f]
        exact W.iret (v := (f_C_size m_34 a1)) hx hb hr (fun t ht hW => ⟨rfl, hM.end ht⟩) hM.2.2.1 d_X_collect_45
      · skip
        refine lv_iconst (v := (-1 : Int32)) hx hb d_X_collect_26 (by decide) ?_
        have e_f : f_X_collect μ a1 a2 = ((-1 : Int32), μ) := by
          exact (if_neg c_4).trans ((if_neg c_12).trans ((if_neg c_23).trans rfl))
        rw [e_f]
        exact W.iret (v := (-1 : Int32)) hx hb hr (fun t ht hW => ⟨rfl, hM.end ht⟩) hM.2.2.1 d_X_collect_27
set_option maxHeartbeats 4000000 in
set_option maxRecDepth 100000 in
theorem c_X_collected (l : Launch) (G : mG) (τ : mTau) (μ : mMem) (a1 : Int32) : Met l y_X_collected w_X_collected r_X_collected (mPc G τ μ [.ref (τ.1 0 0), .int a1]) (mQ G τ (some (.int (f_X_collected μ a1))) μ) 0 0 (fun q => G.2.2.1 ≤ q) := by
  refine Met.ofW (cc := b_X_collected) (maxL := 2) (ret := (some .int)) (by decide) rfl ?_
  intro p e s m args below meth c s₁ B hml hv
  obtain ⟨rfl, hT, hM⟩ := hv
  have hx := B.exec
  have hb := B.bytes
  have hr := B.returns
  have hts : ∀ w ∈ gG, w.before _ s = true := fun w h => atoms_spec (ws := w_X_collected) B.pre w (List.mem_cons_of_mem _ h)
  have hown : s.vm.findClass R_X = some m.cls := findClass_of_methodNamed B.named
  have hlocks := B.notSynchronized
  have hl := lv_entry ([.ref (τ.1 0 0), .int a1]) (n := 2) (Nat.le_of_ble_eq_true rfl)
  rw [lg_entry_eq]
  skip
  generalize (lg_sl ([.ref (τ.1 0 0), .int a1]) ++ List.replicate (2 - (lg_sl ([.ref (τ.1 0 0), .int a1])).length) Slot.unset).toArray = ls at hl ⊢
  have hl : lv_has ls 2 [(0, .ref (τ.1 0 0)), (1, .int a1)] := hl
  refine lv_iload_n hx hb d_X_collected_0 rfl (lv_at hl 1 rfl) ?_
  refine q_X_86 hx hb hml hown hts hT hM (c_X_isSort l G τ μ a1) ⟨Nat.le_of_ble_eq_true rfl, Nat.le_of_ble_eq_true rfl⟩ ⟨Nat.zero_le _, Nat.zero_le _⟩ (lv_room (Nat.le_of_ble_eq_true rfl)) hl.1 d_X_collected_1 (fun H locs hM => ?_)
  refine lv_if_eq (tgt := 18) hx hb d_X_collected_4 (by decide) (fun c_4 => ?_) (fun c_4 => ?_)
  · skip
    refine lv_iconst (v := (-1 : Int32)) hx hb d_X_collected_18 (by decide) ?_
    have e_f : f_X_collected μ a1 = (-1 : Int32) := by
      exact (if_pos c_4).trans rfl
    rw [e_f]
    exact W.iret (v := (-1 : Int32)) hx hb hr (fun t ht hW => ⟨rfl, hM.end ht⟩) hM.2.2.1 d_X_collected_19
  · skip
    refine lv_aload_n hx hb d_X_collected_7 rfl (lv_at hl 0 rfl) ?_
    refine gf_X_22 hx hb hts hown hT hM (lz_0 hM) d_X_collected_8 ?_
    refine lv_iload_n hx hb d_X_collected_11 rfl (lv_at hl 1 rfl) ?_
    refine q_X_100 hx hb hml hown hts hT hM (lz_7 hM) (c_C_size l G τ μ a1) ⟨Nat.le_of_ble_eq_true rfl, Nat.le_of_ble_eq_true rfl⟩ ⟨Nat.zero_le _, Nat.zero_le _⟩ (lv_room (Nat.le_of_ble_eq_true rfl)) hl.1 d_X_collected_12 (fun H locs hM => ?_)
    refine lv_goto (tgt := 19) hx hb d_X_collected_15 (by decide) ?_
    have e_f : f_X_collected μ a1 = (f_C_size μ a1) := by
      exact (if_neg c_4).trans rfl
    rw [e_f]
    exact W.iret (v := (f_C_size μ a1)) hx hb hr (fun t ht hW => ⟨rfl, hM.end ht⟩) hM.2.2.1 d_X_collected_19
set_option maxHeartbeats 4000000 in
set_option maxRecDepth 100000 in
theorem c_X_isCall (l : Launch) (G : mG) (τ : mTau) (μ : mMem) (a1 : Int32) : Met l y_X_isCall w_X_isCall r_X_isCall (mPc G τ μ [.int a1]) (mQ G τ (some (.int (f_X_isCall μ a1))) μ) 0 0 (fun q => G.2.2.1 ≤ q) := by
  refine Met.ofW (cc := b_X_isCall) (maxL := 1) (ret := (some .boolean)) (by decide) rfl ?_
  intro p e s m args below meth c s₁ B hml hv
  obtain ⟨rfl, hT, hM⟩ := hv
  have hx := B.exec
  have hb := B.bytes
  have hr := B.returns
  have hts : ∀ w ∈ gG, w.before _ s = true := fun w h => atoms_spec (ws := w_X_isCall) B.pre w (List.mem_cons_of_mem _ h)
  have hown : s.vm.findClass R_X = some m.cls := findClass_of_methodNamed B.named
  have hlocks := B.notSynchronized
  have hl := lv_entry ([.int a1]) (n := 1) (Nat.le_of_ble_eq_true rfl)
  rw [lg_entry_eq]
  skip
  generalize (lg_sl ([.int a1]) ++ List.replicate (1 - (lg_sl ([.int a1])).length) Slot.unset).toArray = ls at hl ⊢
  have hl : lv_has ls 1 [(0, .int a1)] := hl
  refine lv_iload_n hx hb d_X_isCall_0 rfl (lv_at hl 0 rfl) ?_
  refine lv_if_lt (tgt := 14) hx hb d_X_isCall_1 (by decide) (fun c_1 => ?_) (fun c_1 => ?_)
  · skip
    refine lv_iconst (v := (0 : Int32)) hx hb d_X_isCall_14 (by decide) ?_
    have e_f : f_X_isCall μ a1 = (0 : Int32) := by
      exact (if_pos c_1).trans rfl
    rw [e_f]
    exact W.zret (v := (0 : Int32)) hx hb hr rfl (fun t ht hW => ⟨rfl, hM.end ht⟩) hM.2.2.1 d_X_isCall_15
  · skip
    refine lv_iload_n hx hb d_X_isCall_4 rfl (lv_at hl 0 rfl) ?_
    refine lv_bipush (v := (12 : Int32)) hx hb d_X_isCall_5 (by decide) ?_
    refine lv_icmp_ge (tgt := 14) hx hb d_X_isCall_7 (by decide) (fun c_7 => ?_) (fun c_7 => ?_)
    · skip
      refine lv_iconst (v := (0 : Int32)) hx hb d_X_isCall_14 (by decide) ?_
      have e_f : f_X_isCall μ a1 = (0 : Int32) := by
        exact (if_neg c_1).trans ((if_pos c_7).trans rfl)
      rw [e_f]
      exact W.zret (v := (0 : Int32)) hx hb hr rfl (fun t ht hW => ⟨rfl, hM.end ht⟩) hM.2.2.1 d_X_isCall_15
    · skip
      refine lv_iconst (v := (1 : Int32)) hx hb d_X_isCall_10 (by decide) ?_
      refine lv_goto (tgt := 15) hx hb d_X_isCall_11 (by decide) ?_
      have e_f : f_X_isCall μ a1 = (1 : Int32) := by
        exact (if_neg c_1).trans ((if_neg c_7).trans rfl)
      rw [e_f]
      exact W.zret (v := (1 : Int32)) hx hb hr rfl (fun t ht hW => ⟨rfl, hM.end ht⟩) hM.2.2.1 d_X_isCall_15
set_option maxHeartbeats 4000000 in
set_option maxRecDepth 100000 in
theorem c_X_partAt (l : Launch) (G : mG) (τ : mTau) (μ : mMem) (a1 : Int32) : Met l y_X_partAt w_X_partAt r_X_partAt (mPc G τ μ [.ref (τ.1 0 0), .int a1]) (mQo G τ 11 (f_X_partAt μ a1) μ) 0 0 (fun q => G.2.2.1 ≤ q) := by
  refine Met.ofW (cc := b_X_partAt) (maxL := 2) (ret := (some (.object "BuildCounter$Part"))) (by decide) rfl ?_
  intro p e s m args below meth c s₁ B hml hv
  obtain ⟨rfl, hT, hM⟩ := hv
  have hx := B.exec
  have hb := B.bytes
  have hr := B.returns
  have hts : ∀ w ∈ gG, w.before _ s = true := fun w h => atoms_spec (ws := w_X_partAt) B.pre w (List.mem_cons_of_mem _ h)
  have hown : s.vm.findClass R_X = some m.cls := findClass_of_methodNamed B.named
  have hlocks := B.notSynchronized
  have hl := lv_entry ([.ref (τ.1 0 0), .int a1]) (n := 2) (Nat.le_of_ble_eq_true rfl)
  rw [lg_entry_eq]
  skip
  generalize (lg_sl ([.ref (τ.1 0 0), .int a1]) ++ List.replicate (2 - (lg_sl ([.ref (τ.1 0 0), .int a1])).length) Slot.unset).toArray = ls at hl ⊢
  have hl : lv_has ls 2 [(0, .ref (τ.1 0 0)), (1, .int a1)] := hl
  refine lv_iload_n hx hb d_X_partAt_0 rfl (lv_at hl 1 rfl) ?_
  refine q_X_103 hx hb hml hown hts hT hM (c_X_isCall l G τ μ a1) ⟨Nat.le_of_ble_eq_true rfl, Nat.le_of_ble_eq_true rfl⟩ ⟨Nat.zero_le _, Nat.zero_le _⟩ (lv_room (Nat.le_of_ble_eq_true rfl)) hl.1 d_X_partAt_1 (fun H locs hM => ?_)
  refine lv_if_eq (tgt := 16) hx hb d_X_partAt_4 (by decide) (fun c_4 => ?_) (fun c_4 => ?_)
  · skip
    refine lv_null hx hb d_X_partAt_16 ?_
    have e_f : f_X_partAt μ a1 = none := by
      exact (if_pos c_4).trans rfl
    rw [e_f]
    exact W.aret hx hb hr (Or.inl ⟨_, rfl⟩) (Or.inl rfl) (fun t ht hW => ⟨rfl, (fun i h => by cases h), hM.end ht⟩) hM.2.2.1 d_X_partAt_17
  · skip
    refine lv_aload_n hx hb d_X_partAt_7 rfl (lv_at hl 0 rfl) ?_
    refine gf_X_28 hx hb hts hown hT hM (lz_0 hM) d_X_partAt_8 ?_
    refine lv_iload_n hx hb d_X_partAt_11 rfl (lv_at hl 1 rfl) ?_
    refine al_10 hx hb hT hM (lz_10 hM) (call_in c_4) d_X_partAt_12 (fun c_12 => ?_) (fun c_12 hv_12 => ?_)
    · skip
      refine lv_goto (tgt := 17) hx hb d_X_partAt_13 (by decide) ?_
      have e_f : f_X_partAt μ a1 = none := by
        exact (if_neg c_4).trans ((if_pos c_12).trans rfl)
      rw [e_f]
      exact W.aret hx hb hr (Or.inl ⟨_, rfl⟩) (Or.inl rfl) (fun t ht hW => ⟨rfl, (fun i h => by cases h), hM.end ht⟩) hM.2.2.1 d_X_partAt_17
    · skip
      refine lv_goto (tgt := 17) hx hb d_X_partAt_13 (by decide) ?_
      have e_f : f_X_partAt μ a1 = some a1.toNatClampNeg := by
        exact (if_neg c_4).trans ((if_neg c_12).trans rfl)
      rw [e_f]
      exact W.aret hx hb hr (Or.inl ⟨_, rfl⟩) (Or.inr ⟨_, rfl⟩) (fun t ht hW => ⟨rfl, (fun i h => by cases h; exact hv_12), hM.end ht⟩) hM.2.2.1 d_X_partAt_17
set_option maxHeartbeats 4000000 in
set_option maxRecDepth 100000 in
theorem c_P_addToTable (l : Launch) (G : mG) (τ : mTau) (μ : mMem) (i0 : Nat) (hl0 : τ.2 11 i0) (a1 : Int64) (hI : iX μ) : Met l y_P_addToTable w_P_addToTable r_P_addToTable (mPc G τ μ [.ref (τ.1 11 i0), .long a1]) (mQ G τ none (f_P_addToTable μ i0 a1)) 0 0 (fun q => G.2.2.1 ≤ q) := by
  refine Met.ofW (cc := b_P_addToTable) (maxL := 3) (ret := none) (by decide) rfl ?_
  intro p e s m args below meth c s₁ B hml hv
  obtain ⟨rfl, hT, hM⟩ := hv
  have hx := B.exec
  have hb := B.bytes
  have hr := B.returns
  have hts : ∀ w ∈ gG, w.before _ s = true := fun w h => atoms_spec (ws := w_P_addToTable) B.pre w (List.mem_cons_of_mem _ h)
  have hown : s.vm.findClass R_P = some m.cls := findClass_of_methodNamed B.named
  have hlocks := B.notSynchronized
  have hl := lv_entry ([.ref (τ.1 11 i0), .long a1]) (n := 3) (Nat.le_of_ble_eq_true rfl)
  rw [lg_entry_eq]
  skip
  generalize (lg_sl ([.ref (τ.1 11 i0), .long a1]) ++ List.replicate (3 - (lg_sl ([.ref (τ.1 11 i0), .long a1])).length) Slot.unset).toArray = ls at hl ⊢
  have hl : lv_has ls 3 [(0, .ref (τ.1 11 i0)), (1, .long a1)] := hl
  refine lv_aload_n hx hb d_P_addToTable_0 rfl (lv_at hl 0 rfl) ?_
  refine gf_P_29 hx hb hts hown hT hM hl0 d_P_addToTable_1 ?_
  refine lv_iconst (v := (5 : Int32)) hx hb d_P_addToTable_4 (by decide) ?_
  refine lv_icmp_ge (tgt := 28) hx hb d_P_addToTable_5 (by decide) (fun c_5 => ?_) (fun c_5 => ?_)
  · skip
    have e_f : f_P_addToTable μ i0 a1 = μ := by
      exact (if_pos c_5).trans rfl
    rw [e_f]
    exact W.vret hx hb hr (fun t ht hW => ⟨rfl, hM.end ht⟩) hM.2.2.1 d_P_addToTable_28
  · skip
    refine lv_aload_n hx hb d_P_addToTable_8 rfl (lv_at hl 0 rfl) ?_
    refine gf_P_9 hx hb hts hown hT hM hl0 d_P_addToTable_9 ?_
    have hv_9 : τ.2 12 i0 := lz_12 hM hl0
    refine lv_aload_n hx hb d_P_addToTable_12 rfl (lv_at hl 0 rfl) ?_
    refine gf_P_29 hx hb hts hown hT hM hl0 d_P_addToTable_13 ?_
    refine lv_lload_n hx hb d_P_addToTable_16 rfl (lv_at hl 1 rfl) ?_
    refine as_12 hx hb hT hM hv_9 (in_ans hI c_5) d_P_addToTable_17 (fun m_17 H locs e_17 hM => ?_)
    have hI : iX m_17 := by rw [e_17]; exact iX_L hI rfl
    refine lv_aload_n hx hb d_P_addToTable_18 rfl (lv_at hl 0 rfl) ?_
    refine lv_dup hx hb d_P_addToTable_19 rfl ?_
    refine gf_P_29 hx hb hts hown hT hM hl0 d_P_addToTable_20 ?_
    refine lv_iconst (v := (1 : Int32)) hx hb d_P_addToTable_23 (by decide) ?_
    refine lv_iadd hx hb d_P_addToTable_24 ?_
    refine pf_P_29 hx hb hts hown hT hM hl0 d_P_addToTable_25 (fun m_25 H locs e_25 hM => ?_)
    have e_f : f_P_addToTable μ i0 a1 = m_25 := by
      subst e_25 e_17
      exact (if_neg c_5).trans rfl
    rw [e_f]
    exact W.vret hx hb hr (fun t ht hW => ⟨rfl, hM.end ht⟩) hM.2.2.1 d_P_addToTable_28
set_option maxHeartbeats 4000000 in
set_option maxRecDepth 100000 in
theorem c_X_answer (l : Launch) (G : mG) (τ : mTau) (μ : mMem) (a1 : Int32) (a2 : Int64) (hI : iX μ) : Met l y_X_answer w_X_answer r_X_answer (mPc G τ μ [.ref (τ.1 0 0), .int a1, .long a2]) (mQ G τ (some (.int (f_X_answer μ a1 a2).1)) (f_X_answer μ a1 a2).2) 0 0 (fun q => G.2.2.1 ≤ q) := by
  refine Met.ofW (cc := b_X_answer) (maxL := 5) (ret := (some .int)) (by decide) rfl ?_
  intro p e s m args below meth c s₁ B hml hv
  obtain ⟨rfl, hT, hM⟩ := hv
  have hx := B.exec
  have hb := B.bytes
  have hr := B.returns
  have hts : ∀ w ∈ gG, w.before _ s = true := fun w h => atoms_spec (ws := w_X_answer) B.pre w (List.mem_cons_of_mem _ h)
  have hown : s.vm.findClass R_X = some m.cls := findClass_of_methodNamed B.named
  have hlocks := B.notSynchronized
  have hl := lv_entry ([.ref (τ.1 0 0), .int a1, .long a2]) (n := 5) (Nat.le_of_ble_eq_true rfl)
  rw [lg_entry_eq]
  skip
  generalize (lg_sl ([.ref (τ.1 0 0), .int a1, .long a2]) ++ List.replicate (5 - (lg_sl ([.ref (τ.1 0 0), .int a1, .long a2])).length) Slot.unset).toArray = ls at hl ⊢
  have hl : lv_has ls 5 [(0, .ref (τ.1 0 0)), (1, .int a1), (2, .long a2)] := hl
  refine lv_aload_n hx hb d_X_answer_0 rfl (lv_at hl 0 rfl) ?_
  refine lv_iload_n hx hb d_X_answer_1 rfl (lv_at hl 1 rfl) ?_
  refine q_X_111 hx hb hml hown hts hT hM (lz_0 hM) (c_X_partAt l G τ μ a1) ⟨Nat.le_of_ble_eq_true rfl, Nat.le_of_ble_eq_true rfl⟩ ⟨Nat.zero_le _, Nat.zero_le _⟩ (lv_room (Nat.le_of_ble_eq_true rfl)) hl.1 d_X_answer_2 (fun H locs hM ho_2 => ?_) (fun H locs hM i_2 ho_2 hv_2 => ?_)
  · skip
    refine lv_astoreN (lv' := [(4, .null), (0, .ref (τ.1 0 0)), (1, .int a1), (2, .long a2)]) hx hb d_X_answer_5 hl (by decide) rfl (fun ls hl => ?_)
    refine lv_aloadN hx hb d_X_answer_7 (lv_at hl 0 rfl) ?_
    refine lv_ifnullN (tgt := 21) hx hb d_X_answer_9 (by decide) ?_
    refine lv_iconst (v := (-1 : Int32)) hx hb d_X_answer_21 (by decide) ?_
    have e_f : f_X_answer μ a1 a2 = ((-1 : Int32), μ) := by
      exact (oC_n ho_2).trans rfl
    rw [e_f]
    exact W.iret (v := (-1 : Int32)) hx hb hr (fun t ht hW => ⟨rfl, hM.end ht⟩) hM.2.2.1 d_X_answer_22
  · skip
    refine lv_astore (lv' := [(4, .ref (τ.1 11 i_2)), (0, .ref (τ.1 0 0)), (1, .int a1), (2, .long a2)]) hx hb d_X_answer_5 hl (by decide) rfl (fun ls hl => ?_)
    refine lv_aload hx hb d_X_answer_7 (lv_at hl 0 rfl) ?_
    refine lv_ifnull hx hb d_X_answer_9 ?_
    refine lv_aload hx hb d_X_answer_12 (lv_at hl 0 rfl) ?_
    refine gf_X_115 hx hb hts hown hT hM hv_2 d_X_answer_14 ?_
    refine lv_iconst (v := (5 : Int32)) hx hb d_X_answer_17 (by decide) ?_
    refine lv_icmp_lt (tgt := 23) hx hb d_X_answer_18 (by decide) (fun c_18 => ?_) (fun c_18 => ?_)
    · skip
      refine lv_aload hx hb d_X_answer_23 (lv_at hl 0 rfl) ?_
      refine lv_lload_n hx hb d_X_answer_25 rfl (lv_at hl 3 rfl) ?_
      refine q_X_118 hx hb hml hown hts hT hM hv_2 (c_P_addToTable l G τ μ i_2 hv_2 a2 (hI)) ⟨Nat.le_of_ble_eq_true rfl, Nat.le_of_ble_eq_true rfl⟩ ⟨Nat.zero_le _, Nat.zero_le _⟩ (lv_room (Nat.le_of_ble_eq_true rfl)) hl.1 d_X_answer_26 (fun H locs hM => ?_)
      obtain ⟨m_26, e_26⟩ : ∃ z : mMem, z = (f_P_addToTable μ i_2 a2) := ⟨_, rfl⟩
      rw [← e_26] at hM
      refine lv_aload hx hb d_X_answer_29 (lv_at hl 0 rfl) ?_
      refine gf_X_115 hx hb hts hown hT hM hv_2 d_X_answer_31 ?_
      have e_f : f_X_answer μ a1 a2 = (m_26.1 11 i_2 5, m_26) := by
        subst e_26
        exact (oC_s ho_2).trans ((if_pos c_18).trans rfl)
      rw [e_f]
      exact W.iret (v := m_26.1 11 i_2 5) hx hb hr (fun t ht hW => ⟨rfl, hM.end ht⟩) hM.2.2.1 d_X_answer_34
    · skip
      refine lv_iconst (v := (-1 : Int32)) hx hb d_X_answer_21 (by decide) ?_
      have e_f : f_X_answer μ a1 a2 = ((-1 : Int32), μ) := by
        exact (oC_s ho_2).trans ((if_neg c_18).trans rfl)
      rw [e_f]
      exact W.iret (v := (-1 : Int32)) hx hb hr (fun t ht hW => ⟨rfl, hM.end ht⟩) hM.2.2.1 d_X_answer_22
set_option maxHeartbeats 4000000 in
set_option maxRecDepth 100000 in
theorem c_X_fails (l : Launch) (G : mG) (τ : mTau) (μ : mMem) (a1 : Int32) (a2 : Int32) (a3 : Int32) : Met l y_X_fails w_X_fails r_X_fails (mPc G τ μ [.ref (τ.1 0 0), .int a1, .int a2, .int a3]) (mQ G τ (some (.int (f_X_fails μ a1 a2 a3).1)) (f_X_fails μ a1 a2 a3).2) 0 0 (fun q => G.2.2.1 ≤ q) := by
  refine Met.ofW (cc := b_X_fails) (maxL := 5) (ret := (some .boolean)) (by decide) rfl ?_
  intro p e s m args below meth c s₁ B hml hv
  obtain ⟨rfl, hT, hM⟩ := hv
  have hx := B.exec
  have hb := B.bytes
  have hr := B.returns
  have hts : ∀ w ∈ gG, w.before _ s = true := fun w h => atoms_spec (ws := w_X_fails) B.pre w (List.mem_cons_of_mem _ h)
  have hown : s.vm.findClass R_X = some m.cls := findClass_of_methodNamed B.named
  have hlocks := B.notSynchronized
  have hl := lv_entry ([.ref (τ.1 0 0), .int a1, .int a2, .int a3]) (n := 5) (Nat.le_of_ble_eq_true rfl)
  rw [lg_entry_eq]
  skip
  generalize (lg_sl ([.ref (τ.1 0 0), .int a1, .int a2, .int a3]) ++ List.replicate (5 - (lg_sl ([.ref (τ.1 0 0), .int a1, .int a2, .int a3])).length) Slot.unset).toArray = ls at hl ⊢
  have hl : lv_has ls 5 [(0, .ref (τ.1 0 0)), (1, .int a1), (2, .int a2), (3, .int a3)] := hl
  refine lv_aload_n hx hb d_X_fails_0 rfl (lv_at hl 0 rfl) ?_
  refine lv_iload_n hx hb d_X_fails_1 rfl (lv_at hl 1 rfl) ?_
  refine q_X_111 hx hb hml hown hts hT hM (lz_0 hM) (c_X_partAt l G τ μ a1) ⟨Nat.le_of_ble_eq_true rfl, Nat.le_of_ble_eq_true rfl⟩ ⟨Nat.zero_le _, Nat.zero_le _⟩ (lv_room (Nat.le_of_ble_eq_true rfl)) hl.1 d_X_fails_2 (fun H locs hM ho_2 => ?_) (fun H locs hM i_2 ho_2 hv_2 => ?_)
  · skip
    refine lv_astoreN (lv' := [(4, .null), (0, .ref (τ.1 0 0)), (1, .int a1), (2, .int a2), (3, .int a3)]) hx hb d_X_fails_5 hl (by decide) rfl (fun ls hl => ?_)
    refine lv_aloadN hx hb d_X_fails_7 (lv_at hl 0 rfl) ?_
    refine lv_ifnullN (tgt := 32) hx hb d_X_fails_9 (by decide) ?_
    refine lv_iconst (v := (0 : Int32)) hx hb d_X_fails_32 (by decide) ?_
    have e_f : f_X_fails μ a1 a2 a3 = ((0 : Int32), μ) := by
      exact (oC_n ho_2).trans rfl
    rw [e_f]
    exact W.zret (v := (0 : Int32)) hx hb hr rfl (fun t ht hW => ⟨rfl, hM.end ht⟩) hM.2.2.1 d_X_fails_33
  · skip
    refine lv_astore (lv' := [(4, .ref (τ.1 11 i_2)), (0, .ref (τ.1 0 0)), (1, .int a1), (2, .int a2), (3, .int a3)]) hx hb d_X_fails_5 hl (by decide) rfl (fun ls hl => ?_)
    refine lv_aload hx hb d_X_fails_7 (lv_at hl 0 rfl) ?_
    refine lv_ifnull hx hb d_X_fails_9 ?_
    refine lv_iload_n hx hb d_X_fails_12 rfl (lv_at hl 3 rfl) ?_
    refine lv_iconst (v := (1 : Int32)) hx hb d_X_fails_13 (by decide) ?_
    refine lv_icmp_lt (tgt := 32) hx hb d_X_fails_14 (by decide) (fun c_14 => ?_) (fun c_14 => ?_)
    · skip
      refine lv_iconst (v := (0 : Int32)) hx hb d_X_fails_32 (by decide) ?_
      have e_f : f_X_fails μ a1 a2 a3 = ((0 : Int32), μ) := by
        exact (oC_s ho_2).trans ((if_pos c_14).trans rfl)
      rw [e_f]
      exact W.zret (v := (0 : Int32)) hx hb hr rfl (fun t ht hW => ⟨rfl, hM.end ht⟩) hM.2.2.1 d_X_fails_33
    · skip
      refine lv_iload_n hx hb d_X_fails_17 rfl (lv_at hl 3 rfl) ?_
      refine lv_iconst (v := (3 : Int32)) hx hb d_X_fails_18 (by decide) ?_
      refine lv_icmp_gt (tgt := 32) hx hb d_X_fails_19 (by decide) (fun c_19 => ?_) (fun c_19 => ?_)
      · skip
        refine lv_iconst (v := (0 : Int32)) hx hb d_X_fails_32 (by decide) ?_
        have e_f : f_X_fails μ a1 a2 a3 = ((0 : Int32), μ) := by
          exact (oC_s ho_2).trans ((if_neg c_14).trans ((if_pos c_19).trans rfl))
        rw [e_f]
        exact W.zret (v := (0 : Int32)) hx hb hr rfl (fun t ht hW => ⟨rfl, hM.end ht⟩) hM.2.2.1 d_X_fails_33
      · skip
        refine lv_iload_n hx hb d_X_fails_22 rfl (lv_at hl 4 rfl) ?_
        refine lv_if_lt (tgt := 32) hx hb d_X_fails_23 (by decide) (fun c_23 => ?_) (fun c_23 => ?_)
        · skip
          refine lv_iconst (v := (0 : Int32)) hx hb d_X_fails_32 (by decide) ?_
          have e_f : f_X_fails μ a1 a2 a3 = ((0 : Int32), μ) := by
            exact (oC_s ho_2).trans ((if_neg c_14).trans ((if_neg c_19).trans ((if_pos c_23).trans rfl)))
          rw [e_f]
          exact W.zret (v := (0 : Int32)) hx hb hr rfl (fun t ht hW => ⟨rfl, hM.end ht⟩) hM.2.2.1 d_X_fails_33
        · skip
          refine lv_iload_n hx hb d_X_fails_26 rfl (lv_at hl 4 rfl) ?_
          refine lv_bipush (v := (9 : Int32)) hx hb d_X_fails_27 (by decide) ?_
          refine lv_icmp_le (tgt := 34) hx hb d_X_fails_29 (by decide) (fun c_29 => ?_) (fun c_29 => ?_)
          · skip
            refine lv_aload hx hb d_X_fails_34 (lv_at hl 0 rfl) ?_
            refine lv_iload_n hx hb d_X_fails_36 rfl (lv_at hl 3 rfl) ?_
            refine pf_X_122 hx hb hts hown hT hM hv_2 d_X_fails_37 (fun m_37 H locs e_37 hM => ?_)
            refine lv_aload hx hb d_X_fails_40 (lv_at hl 0 rfl) ?_
            refine lv_iload_n hx hb d_X_fails_42 rfl (lv_at hl 4 rfl) ?_
            refine pf_X_125 hx hb hts hown hT hM hv_2 d_X_fails_43 (fun m_43 H locs e_43 hM => ?_)
            refine lv_iconst (v := (1 : Int32)) hx hb d_X_fails_46 (by decide) ?_
            have e_f : f_X_fails μ a1 a2 a3 = ((1 : Int32), m_43) := by
              subst e_43 e_37
              exact (oC_s ho_2).trans ((if_neg c_14).trans ((if_neg c_19).trans ((if_neg c_23).trans ((if_pos c_29).trans rfl))))
            rw [e_f]
            exact W.zret (v := (1 : Int32)) hx hb hr rfl (fun t ht hW => ⟨rfl, hM.end ht⟩) hM.2.2.1 d_X_fails_47
          · skip
            refine lv_iconst (v := (0 : Int32)) hx hb d_X_fails_32 (by decide) ?_
            have e_f : f_X_fails μ a1 a2 a3 = ((0 : Int32), μ) := by
              exact (oC_s ho_2).trans ((if_neg c_14).trans ((if_neg c_19).trans ((if_neg c_23).trans ((if_neg c_29).trans rfl))))
            rw [e_f]
            exact W.zret (v := (0 : Int32)) hx hb hr rfl (fun t ht hW => ⟨rfl, hM.end ht⟩) hM.2.2.1 d_X_fails_33
set_option maxHeartbeats 4000000 in
set_option maxRecDepth 100000 in
theorem c_O_addToCounts (l : Launch) (G : mG) (τ : mTau) (μ : mMem) (a1 : Int32) : Met l y_O_addToCounts w_O_addToCounts r_O_addToCounts (mPc G τ μ [.ref (τ.1 13 0), .int a1]) (mQ G τ none (f_O_addToCounts μ a1)) 0 0 (fun q => G.2.2.1 ≤ q) := by
  refine Met.ofW (cc := b_O_addToCounts) (maxL := 2) (ret := none) (by decide) rfl ?_
  intro p e s m args below meth c s₁ B hml hv
  obtain ⟨rfl, hT, hM⟩ := hv
  have hx := B.exec
  have hb := B.bytes
  have hr := B.returns
  have hts : ∀ w ∈ gG, w.before _ s = true := fun w h => atoms_spec (ws := w_O_addToCounts) B.pre w (List.mem_cons_of_mem _ h)
  have hown : s.vm.findClass R_O = some m.cls := findClass_of_methodNamed B.named
  have hlocks := B.notSynchronized
  have hl := lv_entry ([.ref (τ.1 13 0), .int a1]) (n := 2) (Nat.le_of_ble_eq_true rfl)
  rw [lg_entry_eq]
  skip
  generalize (lg_sl ([.ref (τ.1 13 0), .int a1]) ++ List.replicate (2 - (lg_sl ([.ref (τ.1 13 0), .int a1])).length) Slot.unset).toArray = ls at hl ⊢
  have hl : lv_has ls 2 [(0, .ref (τ.1 13 0)), (1, .int a1)] := hl
  refine lv_iload_n hx hb d_O_addToCounts_0 rfl (lv_at hl 1 rfl) ?_
  refine lv_if_ne (tgt := 17) hx hb d_O_addToCounts_1 (by decide) (fun c_1 => ?_) (fun c_1 => ?_)
  · skip
    refine lv_iload_n hx hb d_O_addToCounts_17 rfl (lv_at hl 1 rfl) ?_
    refine lv_iconst (v := (4 : Int32)) hx hb d_O_addToCounts_18 (by decide) ?_
    refine lv_icmp_ne (tgt := 35) hx hb d_O_addToCounts_19 (by decide) (fun c_19 => ?_) (fun c_19 => ?_)
    · skip
      refine lv_iload_n hx hb d_O_addToCounts_35 rfl (lv_at hl 1 rfl) ?_
      refine lv_iconst (v := (5 : Int32)) hx hb d_O_addToCounts_36 (by decide) ?_
      refine lv_icmp_ne (tgt := 53) hx hb d_O_addToCounts_37 (by decide) (fun c_37 => ?_) (fun c_37 => ?_)
      · skip
        refine lv_aload_n hx hb d_O_addToCounts_53 rfl (lv_at hl 0 rfl) ?_
        refine lv_dup hx hb d_O_addToCounts_54 rfl ?_
        refine gf_O_45 hx hb hts hown hT hM (lz_13 hM) d_O_addToCounts_55 ?_
        refine lv_iconst (v := (1 : Int32)) hx hb d_O_addToCounts_58 (by decide) ?_
        refine lv_iadd hx hb d_O_addToCounts_59 ?_
        refine pf_O_45 hx hb hts hown hT hM (lz_13 hM) d_O_addToCounts_60 (fun m_60 H locs e_60 hM => ?_)
        have e_f : f_O_addToCounts μ a1 = m_60 := by
          subst e_60
          exact (if_neg c_1).trans ((if_neg c_19).trans ((if_neg c_37).trans rfl))
        rw [e_f]
        exact W.vret hx hb hr (fun t ht hW => ⟨rfl, hM.end ht⟩) hM.2.2.1 d_O_addToCounts_63
      · skip
        refine lv_aload_n hx hb d_O_addToCounts_40 rfl (lv_at hl 0 rfl) ?_
        refine lv_dup hx hb d_O_addToCounts_41 rfl ?_
        refine gf_O_42 hx hb hts hown hT hM (lz_13 hM) d_O_addToCounts_42 ?_
        refine lv_iconst (v := (1 : Int32)) hx hb d_O_addToCounts_45 (by decide) ?_
        refine lv_iadd hx hb d_O_addToCounts_46 ?_
        refine pf_O_42 hx hb hts hown hT hM (lz_13 hM) d_O_addToCounts_47 (fun m_47 H locs e_47 hM => ?_)
        refine lv_goto (tgt := 63) hx hb d_O_addToCounts_50 (by decide) ?_
        have e_f : f_O_addToCounts μ a1 = m_47 := by
          subst e_47
          exact (if_neg c_1).trans ((if_neg c_19).trans ((if_pos c_37).trans rfl))
        rw [e_f]
        exact W.vret hx hb hr (fun t ht hW => ⟨rfl, hM.end ht⟩) hM.2.2.1 d_O_addToCounts_63
    · skip
      refine lv_aload_n hx hb d_O_addToCounts_22 rfl (lv_at hl 0 rfl) ?_
      refine lv_dup hx hb d_O_addToCounts_23 rfl ?_
      refine gf_O_39 hx hb hts hown hT hM (lz_13 hM) d_O_addToCounts_24 ?_
      refine lv_iconst (v := (1 : Int32)) hx hb d_O_addToCounts_27 (by decide) ?_
      refine lv_iadd hx hb d_O_addToCounts_28 ?_
      refine pf_O_39 hx hb hts hown hT hM (lz_13 hM) d_O_addToCounts_29 (fun m_29 H locs e_29 hM => ?_)
      refine lv_goto (tgt := 63) hx hb d_O_addToCounts_32 (by decide) ?_
      have e_f : f_O_addToCounts μ a1 = m_29 := by
        subst e_29
        exact (if_neg c_1).trans ((if_pos c_19).trans rfl)
      rw [e_f]
      exact W.vret hx hb hr (fun t ht hW => ⟨rfl, hM.end ht⟩) hM.2.2.1 d_O_addToCounts_63
  · skip
    refine lv_aload_n hx hb d_O_addToCounts_4 rfl (lv_at hl 0 rfl) ?_
    refine lv_dup hx hb d_O_addToCounts_5 rfl ?_
    refine gf_O_36 hx hb hts hown hT hM (lz_13 hM) d_O_addToCounts_6 ?_
    refine lv_iconst (v := (1 : Int32)) hx hb d_O_addToCounts_9 (by decide) ?_
    refine lv_iadd hx hb d_O_addToCounts_10 ?_
    refine pf_O_36 hx hb hts hown hT hM (lz_13 hM) d_O_addToCounts_11 (fun m_11 H locs e_11 hM => ?_)
    refine lv_goto (tgt := 63) hx hb d_O_addToCounts_14 (by decide) ?_
    have e_f : f_O_addToCounts μ a1 = m_11 := by
      subst e_11
      exact (if_pos c_1).trans rfl
    rw [e_f]
    exact W.vret hx hb hr (fun t ht hW => ⟨rfl, hM.end ht⟩) hM.2.2.1 d_O_addToCounts_63
set_option maxHeartbeats 4000000 in
set_option maxRecDepth 100000 in
theorem c_O_add (l : Launch) (G : mG) (τ : mTau) (μ : mMem) (a1 : Int32) (a2 : Int32) (a3 : Int32) (a4 : Int64) (hI : iX μ) : Met l y_O_add w_O_add r_O_add (mPc G τ μ [.ref (τ.1 13 0), .int a1, .int a2, .int a3, .long a4]) (mQ G τ none (f_O_add μ a1 a2 a3 a4)) 0 0 (fun q => G.2.2.1 ≤ q) := by
  refine Met.ofW (cc := b_O_add) (maxL := 6) (ret := none) (by decide) rfl ?_
  intro p e s m args below meth c s₁ B hml hv
  obtain ⟨rfl, hT, hM⟩ := hv
  have hx := B.exec
  have hb := B.bytes
  have hr := B.returns
  have hts : ∀ w ∈ gG, w.before _ s = true := fun w h => atoms_spec (ws := w_O_add) B.pre w (List.mem_cons_of_mem _ h)
  have hown : s.vm.findClass R_O = some m.cls := findClass_of_methodNamed B.named
  have hlocks := B.notSynchronized
  have hl := lv_entry ([.ref (τ.1 13 0), .int a1, .int a2, .int a3, .long a4]) (n := 6) (Nat.le_of_ble_eq_true rfl)
  rw [lg_entry_eq]
  skip
  generalize (lg_sl ([.ref (τ.1 13 0), .int a1, .int a2, .int a3, .long a4]) ++ List.replicate (6 - (lg_sl ([.ref (τ.1 13 0), .int a1, .int a2, .int a3, .long a4])).length) Slot.unset).toArray = ls at hl ⊢
  have hl : lv_has ls 6 [(0, .ref (τ.1 13 0)), (1, .int a1), (2, .int a2), (3, .int a3), (4, .long a4)] := hl
  refine lv_aload_n hx hb d_O_add_0 rfl (lv_at hl 0 rfl) ?_
  refine gf_O_9 hx hb hts hown hT hM (lz_13 hM) d_O_add_1 ?_
  refine lv_aload_n hx hb d_O_add_4 rfl (lv_at hl 0 rfl) ?_
  refine gf_O_25 hx hb hts hown hT hM (lz_13 hM) d_O_add_5 ?_
  refine lv_iload_n hx hb d_O_add_8 rfl (lv_at hl 1 rfl) ?_
  refine as_14 hx hb hT hM (lz_14 hM) (hI.2.1) d_O_add_9 (fun m_9 H locs e_9 hM => ?_)
  have hI : iX m_9 := by rw [e_9]; exact iX_I hI rfl
  refine lv_aload_n hx hb d_O_add_10 rfl (lv_at hl 0 rfl) ?_
  refine gf_O_15 hx hb hts hown hT hM (lz_13 hM) d_O_add_11 ?_
  refine lv_aload_n hx hb d_O_add_14 rfl (lv_at hl 0 rfl) ?_
  refine gf_O_25 hx hb hts hown hT hM (lz_13 hM) d_O_add_15 ?_
  refine lv_iload_n hx hb d_O_add_18 rfl (lv_at hl 2 rfl) ?_
  refine as_15 hx hb hT hM (lz_15 hM) (hI.2.1) d_O_add_19 (fun m_19 H locs e_19 hM => ?_)
  have hI : iX m_19 := by rw [e_19]; exact iX_I hI rfl
  refine lv_aload_n hx hb d_O_add_20 rfl (lv_at hl 0 rfl) ?_
  refine gf_O_18 hx hb hts hown hT hM (lz_13 hM) d_O_add_21 ?_
  refine lv_aload_n hx hb d_O_add_24 rfl (lv_at hl 0 rfl) ?_
  refine gf_O_25 hx hb hts hown hT hM (lz_13 hM) d_O_add_25 ?_
  refine lv_iload_n hx hb d_O_add_28 rfl (lv_at hl 3 rfl) ?_
  refine as_16 hx hb hT hM (lz_16 hM) (hI.2.1) d_O_add_29 (fun m_29 H locs e_29 hM => ?_)
  have hI : iX m_29 := by rw [e_29]; exact iX_I hI rfl
  refine lv_aload_n hx hb d_O_add_30 rfl (lv_at hl 0 rfl) ?_
  refine gf_O_21 hx hb hts hown hT hM (lz_13 hM) d_O_add_31 ?_
  refine lv_aload_n hx hb d_O_add_34 rfl (lv_at hl 0 rfl) ?_
  refine gf_O_25 hx hb hts hown hT hM (lz_13 hM) d_O_add_35 ?_
  refine lv_lload hx hb d_O_add_38 (lv_at hl 4 rfl) ?_
  refine as_17 hx hb hT hM (lz_17 hM) (hI.2.1) d_O_add_40 (fun m_40 H locs e_40 hM => ?_)
  have hI : iX m_40 := by rw [e_40]; exact iX_L hI rfl
  refine lv_aload_n hx hb d_O_add_41 rfl (lv_at hl 0 rfl) ?_
  refine lv_aload_n hx hb d_O_add_42 rfl (lv_at hl 0 rfl) ?_
  refine gf_O_25 hx hb hts hown hT hM (lz_13 hM) d_O_add_43 ?_
  refine lv_iconst (v := (1 : Int32)) hx hb d_O_add_46 (by decide) ?_
  refine lv_iadd hx hb d_O_add_47 ?_
  refine lv_bipush (v := (40 : Int32)) hx hb d_O_add_48 (by decide) ?_
  refine lv_icmp_ge (tgt := 62) hx hb d_O_add_50 (by decide) (fun c_50 => ?_) (fun c_50 => ?_)
  · skip
    refine lv_iconst (v := (0 : Int32)) hx hb d_O_add_62 (by decide) ?_
    refine pf_O_25 hx hb hts hown hT hM (lz_13 hM) d_O_add_63 (fun m_63 H locs e_63 hM => ?_)
    refine lv_aload_n hx hb d_O_add_66 rfl (lv_at hl 0 rfl) ?_
    refine lv_dup hx hb d_O_add_67 rfl ?_
    refine gf_O_29 hx hb hts hown hT hM (lz_13 hM) d_O_add_68 ?_
    refine lv_iconst (v := (1 : Int32)) hx hb d_O_add_71 (by decide) ?_
    refine lv_iadd hx hb d_O_add_72 ?_
    refine pf_O_29 hx hb hts hown hT hM (lz_13 hM) d_O_add_73 (fun m_73 H locs e_73 hM => ?_)
    refine lv_aload_n hx hb d_O_add_76 rfl (lv_at hl 0 rfl) ?_
    refine lv_iload_n hx hb d_O_add_77 rfl (lv_at hl 1 rfl) ?_
    refine q_O_32 hx hb hml hown hts hT hM (lz_13 hM) (c_O_addToCounts l G τ m_73 a1) ⟨Nat.le_of_ble_eq_true rfl, Nat.le_of_ble_eq_true rfl⟩ ⟨Nat.zero_le _, Nat.zero_le _⟩ (lv_room (Nat.le_of_ble_eq_true rfl)) hl.1 d_O_add_78 (fun H locs hM => ?_)
    obtain ⟨m_78, e_78⟩ : ∃ z : mMem, z = (f_O_addToCounts m_73 a1) := ⟨_, rfl⟩
    rw [← e_78] at hM
    have e_f : f_O_add μ a1 a2 a3 a4 = m_78 := by
      subst e_78 e_73 e_63 e_40 e_29 e_19 e_9
      exact (if_pos c_50).trans rfl
    rw [e_f]
    exact W.vret hx hb hr (fun t ht hW => ⟨rfl, hM.end ht⟩) hM.2.2.1 d_O_add_81
  · skip
    refine lv_aload_n hx hb d_O_add_53 rfl (lv_at hl 0 rfl) ?_
    refine gf_O_25 hx hb hts hown hT hM (lz_13 hM) d_O_add_54 ?_
    refine lv_iconst (v := (1 : Int32)) hx hb d_O_add_57 (by decide) ?_
    refine lv_iadd hx hb d_O_add_58 ?_
    refine lv_goto (tgt := 63) hx hb d_O_add_59 (by decide) ?_
    refine pf_O_25 hx hb hts hown hT hM (lz_13 hM) d_O_add_63 (fun m_63 H locs e_63 hM => ?_)
    refine lv_aload_n hx hb d_O_add_66 rfl (lv_at hl 0 rfl) ?_
    refine lv_dup hx hb d_O_add_67 rfl ?_
    refine gf_O_29 hx hb hts hown hT hM (lz_13 hM) d_O_add_68 ?_
    refine lv_iconst (v := (1 : Int32)) hx hb d_O_add_71 (by decide) ?_
    refine lv_iadd hx hb d_O_add_72 ?_
    refine pf_O_29 hx hb hts hown hT hM (lz_13 hM) d_O_add_73 (fun m_73 H locs e_73 hM => ?_)
    refine lv_aload_n hx hb d_O_add_76 rfl (lv_at hl 0 rfl) ?_
    refine lv_iload_n hx hb d_O_add_77 rfl (lv_at hl 1 rfl) ?_
    refine q_O_32 hx hb hml hown hts hT hM (lz_13 hM) (c_O_addToCounts l G τ m_73 a1) ⟨Nat.le_of_ble_eq_true rfl, Nat.le_of_ble_eq_true rfl⟩ ⟨Nat.zero_le _, Nat.zero_le _⟩ (lv_room (Nat.le_of_ble_eq_true rfl)) hl.1 d_O_add_78 (fun H locs hM => ?_)
    obtain ⟨m_78, e_78⟩ : ∃ z : mMem, z = (f_O_addToCounts m_73 a1) := ⟨_, rfl⟩
    rw [← e_78] at hM
    have e_f : f_O_add μ a1 a2 a3 a4 = m_78 := by
      subst e_78 e_73 e_63 e_40 e_29 e_19 e_9
      exact (if_neg c_50).trans rfl
    rw [e_f]
    exact W.vret hx hb hr (fun t ht hW => ⟨rfl, hM.end ht⟩) hM.2.2.1 d_O_add_81
set_option maxHeartbeats 4000000 in
set_option maxRecDepth 100000 in
theorem c_X_tell (l : Launch) (G : mG) (τ : mTau) (μ : mMem) (a1 : Int32) (a2 : Int32) (a3 : Int32) (a4 : Int64) (hI : iX μ) : Met l y_X_tell w_X_tell r_X_tell (mPc G τ μ [.ref (τ.1 0 0), .int a1, .int a2, .int a3, .long a4]) (mQ G τ (some (.long (f_X_tell μ a1 a2 a3 a4).1)) (f_X_tell μ a1 a2 a3 a4).2) 0 0 (fun q => G.2.2.1 ≤ q) := by
  refine Met.ofW (cc := b_X_tell) (maxL := 6) (ret := (some .long)) (by decide) rfl ?_
  intro p e s m args below meth c s₁ B hml hv
  obtain ⟨rfl, hT, hM⟩ := hv
  have hx := B.exec
  have hb := B.bytes
  have hr := B.returns
  have hts : ∀ w ∈ gG, w.before _ s = true := fun w h => atoms_spec (ws := w_X_tell) B.pre w (List.mem_cons_of_mem _ h)
  have hown : s.vm.findClass R_X = some m.cls := findClass_of_methodNamed B.named
  have hlocks := B.notSynchronized
  have hl := lv_entry ([.ref (τ.1 0 0), .int a1, .int a2, .int a3, .long a4]) (n := 6) (Nat.le_of_ble_eq_true rfl)
  rw [lg_entry_eq]
  skip
  generalize (lg_sl ([.ref (τ.1 0 0), .int a1, .int a2, .int a3, .long a4]) ++ List.replicate (6 - (lg_sl ([.ref (τ.1 0 0), .int a1, .int a2, .int a3, .long a4])).length) Slot.unset).toArray = ls at hl ⊢
  have hl : lv_has ls 6 [(0, .ref (τ.1 0 0)), (1, .int a1), (2, .int a2), (3, .int a3), (4, .long a4)] := hl
  refine lv_aload_n hx hb d_X_tell_0 rfl (lv_at hl 0 rfl) ?_
  refine gf_X_35 hx hb hts hown hT hM (lz_0 hM) d_X_tell_1 ?_
  refine lv_iload_n hx hb d_X_tell_4 rfl (lv_at hl 1 rfl) ?_
  refine lv_iload_n hx hb d_X_tell_5 rfl (lv_at hl 2 rfl) ?_
  refine lv_iload_n hx hb d_X_tell_6 rfl (lv_at hl 3 rfl) ?_
  refine lv_lload hx hb d_X_tell_7 (lv_at hl 4 rfl) ?_
  refine q_X_244 hx hb hml hown hts hT hM (lz_13 hM) (c_O_add l G τ μ a1 a2 a3 a4 (hI)) ⟨Nat.le_of_ble_eq_true rfl, Nat.le_of_ble_eq_true rfl⟩ ⟨Nat.zero_le _, Nat.zero_le _⟩ (lv_room (Nat.le_of_ble_eq_true rfl)) hl.1 d_X_tell_9 (fun H locs hM => ?_)
  obtain ⟨m_9, e_9⟩ : ∃ z : mMem, z = (f_O_add μ a1 a2 a3 a4) := ⟨_, rfl⟩
  rw [← e_9] at hM
  refine lv_lload hx hb d_X_tell_12 (lv_at hl 4 rfl) ?_
  have e_f : f_X_tell μ a1 a2 a3 a4 = (a4, m_9) := by
    subst e_9
    exact rfl
  rw [e_f]
  exact W.lret (v := a4) hx hb hr (fun t ht hW => ⟨rfl, hM.end ht⟩) hM.2.2.1 d_X_tell_14
set_option maxHeartbeats 4000000 in
set_option maxRecDepth 100000 in
theorem c_B_isFull (l : Launch) (G : mG) (τ : mTau) (μ : mMem) (i0 : Nat) (hl0 : τ.2 3 i0) : Met l y_B_isFull w_B_isFull r_B_isFull (mPc G τ μ [.ref (τ.1 3 i0)]) (mQ G τ (some (.int (f_B_isFull μ i0))) μ) 0 0 (fun q => G.2.2.1 ≤ q) := by
  refine Met.ofW (cc := b_B_isFull) (maxL := 1) (ret := (some .boolean)) (by decide) rfl ?_
  intro p e s m args below meth c s₁ B hml hv
  obtain ⟨rfl, hT, hM⟩ := hv
  have hx := B.exec
  have hb := B.bytes
  have hr := B.returns
  have hts : ∀ w ∈ gG, w.before _ s = true := fun w h => atoms_spec (ws := w_B_isFull) B.pre w (List.mem_cons_of_mem _ h)
  have hown : s.vm.findClass R_B = some m.cls := findClass_of_methodNamed B.named
  have hlocks := B.notSynchronized
  have hl := lv_entry ([.ref (τ.1 3 i0)]) (n := 1) (Nat.le_of_ble_eq_true rfl)
  rw [lg_entry_eq]
  skip
  generalize (lg_sl ([.ref (τ.1 3 i0)]) ++ List.replicate (1 - (lg_sl ([.ref (τ.1 3 i0)])).length) Slot.unset).toArray = ls at hl ⊢
  have hl : lv_has ls 1 [(0, .ref (τ.1 3 i0))] := hl
  refine lv_aload_n hx hb d_B_isFull_0 rfl (lv_at hl 0 rfl) ?_
  refine gf_B_26 hx hb hts hown hT hM hl0 d_B_isFull_1 ?_
  refine lv_bipush (v := (6 : Int32)) hx hb d_B_isFull_4 (by decide) ?_
  refine lv_icmp_lt (tgt := 13) hx hb d_B_isFull_6 (by decide) (fun c_6 => ?_) (fun c_6 => ?_)
  · skip
    refine lv_iconst (v := (0 : Int32)) hx hb d_B_isFull_13 (by decide) ?_
    have e_f : f_B_isFull μ i0 = (0 : Int32) := by
      exact (if_pos c_6).trans rfl
    rw [e_f]
    exact W.zret (v := (0 : Int32)) hx hb hr rfl (fun t ht hW => ⟨rfl, hM.end ht⟩) hM.2.2.1 d_B_isFull_14
  · skip
    refine lv_iconst (v := (1 : Int32)) hx hb d_B_isFull_9 (by decide) ?_
    refine lv_goto (tgt := 14) hx hb d_B_isFull_10 (by decide) ?_
    have e_f : f_B_isFull μ i0 = (1 : Int32) := by
      exact (if_neg c_6).trans rfl
    rw [e_f]
    exact W.zret (v := (1 : Int32)) hx hb hr rfl (fun t ht hW => ⟨rfl, hM.end ht⟩) hM.2.2.1 d_B_isFull_14
set_option maxHeartbeats 4000000 in
set_option maxRecDepth 100000 in
theorem c_X_refusalOf (l : Launch) (G : mG) (τ : mTau) (μ : mMem) (i1 : Nat) (hi1 : τ.2 11 i1) (i2 : Nat) (hi2 : τ.2 3 i2) (a3 : Int64) : Met l y_X_refusalOf w_X_refusalOf r_X_refusalOf (mPc G τ μ [.ref (τ.1 0 0), .ref (τ.1 11 i1), .ref (τ.1 3 i2), .long a3]) (mQ G τ (some (.long (f_X_refusalOf μ i1 i2 a3))) μ) 0 0 (fun q => G.2.2.1 ≤ q) := by
  refine Met.ofW (cc := b_X_refusalOf) (maxL := 5) (ret := (some .long)) (by decide) rfl ?_
  intro p e s m args below meth c s₁ B hml hv
  obtain ⟨rfl, hT, hM⟩ := hv
  have hx := B.exec
  have hb := B.bytes
  have hr := B.returns
  have hts : ∀ w ∈ gG, w.before _ s = true := fun w h => atoms_spec (ws := w_X_refusalOf) B.pre w (List.mem_cons_of_mem _ h)
  have hown : s.vm.findClass R_X = some m.cls := findClass_of_methodNamed B.named
  have hlocks := B.notSynchronized
  have hl := lv_entry ([.ref (τ.1 0 0), .ref (τ.1 11 i1), .ref (τ.1 3 i2), .long a3]) (n := 5) (Nat.le_of_ble_eq_true rfl)
  rw [lg_entry_eq]
  skip
  generalize (lg_sl ([.ref (τ.1 0 0), .ref (τ.1 11 i1), .ref (τ.1 3 i2), .long a3]) ++ List.replicate (5 - (lg_sl ([.ref (τ.1 0 0), .ref (τ.1 11 i1), .ref (τ.1 3 i2), .long a3])).length) Slot.unset).toArray = ls at hl ⊢
  have hl : lv_has ls 5 [(0, .ref (τ.1 0 0)), (1, .ref (τ.1 11 i1)), (2, .ref (τ.1 3 i2)), (3, .long a3)] := hl
  refine lv_lload_n hx hb d_X_refusalOf_0 rfl (lv_at hl 3 rfl) ?_
  refine lv_aload_n hx hb d_X_refusalOf_1 rfl (lv_at hl 1 rfl) ?_
  refine gf_X_229 hx hb hts hown hT hM hi1 d_X_refusalOf_2 ?_
  refine W.lcmp hx hb d_X_refusalOf_5 ?_
  refine lv_if_lt (tgt := 18) hx hb d_X_refusalOf_6 (by decide) (fun c_6 => ?_) (fun c_6 => ?_)
  · skip
    refine lv_ldc2 (v := (-2 : Int64)) hx hb hown (hts _ kw_constantLong_236__2) d_X_refusalOf_18 ?_
    have e_f : f_X_refusalOf μ i1 i2 a3 = (-2 : Int64) := by
      exact (if_pos c_6).trans rfl
    rw [e_f]
    exact W.lret (v := (-2 : Int64)) hx hb hr (fun t ht hW => ⟨rfl, hM.end ht⟩) hM.2.2.1 d_X_refusalOf_21
  · skip
    refine lv_lload_n hx hb d_X_refusalOf_9 rfl (lv_at hl 3 rfl) ?_
    refine lv_aload_n hx hb d_X_refusalOf_10 rfl (lv_at hl 1 rfl) ?_
    refine gf_X_233 hx hb hts hown hT hM hi1 d_X_refusalOf_11 ?_
    refine W.lcmp hx hb d_X_refusalOf_14 ?_
    refine lv_if_le (tgt := 22) hx hb d_X_refusalOf_15 (by decide) (fun c_15 => ?_) (fun c_15 => ?_)
    · skip
      refine lv_aload_n hx hb d_X_refusalOf_22 rfl (lv_at hl 1 rfl) ?_
      refine gf_X_139 hx hb hts hown hT hM hi1 d_X_refusalOf_23 ?_
      refine lv_iconst (v := (-1 : Int32)) hx hb d_X_refusalOf_26 (by decide) ?_
      refine lv_icmp_ne (tgt := 32) hx hb d_X_refusalOf_27 (by decide) (fun c_27 => ?_) (fun c_27 => ?_)
      · skip
        refine lv_aload_n hx hb d_X_refusalOf_32 rfl (lv_at hl 0 rfl) ?_
        refine gf_X_22 hx hb hts hown hT hM (lz_0 hM) d_X_refusalOf_33 ?_
        refine lv_aload_n hx hb d_X_refusalOf_36 rfl (lv_at hl 1 rfl) ?_
        refine gf_X_139 hx hb hts hown hT hM hi1 d_X_refusalOf_37 ?_
        refine q_X_100 hx hb hml hown hts hT hM (lz_7 hM) (c_C_size l G τ μ (μ.1 11 i1 1)) ⟨Nat.le_of_ble_eq_true rfl, Nat.le_of_ble_eq_true rfl⟩ ⟨Nat.zero_le _, Nat.zero_le _⟩ (lv_room (Nat.le_of_ble_eq_true rfl)) hl.1 d_X_refusalOf_40 (fun H locs hM => ?_)
        refine lv_if_ne (tgt := 50) hx hb d_X_refusalOf_43 (by decide) (fun c_43 => ?_) (fun c_43 => ?_)
        · skip
          refine lv_aload_n hx hb d_X_refusalOf_50 rfl (lv_at hl 2 rfl) ?_
          refine q_X_68 hx hb hml hown hts hT hM hi2 (c_B_isOn l G τ μ i2 hi2) ⟨Nat.le_of_ble_eq_true rfl, Nat.le_of_ble_eq_true rfl⟩ ⟨Nat.zero_le _, Nat.zero_le _⟩ (lv_room (Nat.le_of_ble_eq_true rfl)) hl.1 d_X_refusalOf_51 (fun H locs hM => ?_)
          refine lv_if_eq (tgt := 70) hx hb d_X_refusalOf_54 (by decide) (fun c_54 => ?_) (fun c_54 => ?_)
          · skip
            refine lv_lconst (v := (0 : Int64)) hx hb d_X_refusalOf_70 (by decide) ?_
            have e_f : f_X_refusalOf μ i1 i2 a3 = (0 : Int64) := by
              exact (if_neg c_6).trans ((if_pos c_15).trans ((if_neg c_27).trans ((if_neg c_43).trans ((if_pos c_54).trans rfl))))
            rw [e_f]
            exact W.lret (v := (0 : Int64)) hx hb hr (fun t ht hW => ⟨rfl, hM.end ht⟩) hM.2.2.1 d_X_refusalOf_71
          · skip
            refine lv_aload_n hx hb d_X_refusalOf_57 rfl (lv_at hl 2 rfl) ?_
            refine q_X_240 hx hb hml hown hts hT hM hi2 (c_B_isFull l G τ μ i2 hi2) ⟨Nat.le_of_ble_eq_true rfl, Nat.le_of_ble_eq_true rfl⟩ ⟨Nat.zero_le _, Nat.zero_le _⟩ (lv_room (Nat.le_of_ble_eq_true rfl)) hl.1 d_X_refusalOf_58 (fun H locs hM => ?_)
            refine lv_if_eq (tgt := 70) hx hb d_X_refusalOf_61 (by decide) (fun c_61 => ?_) (fun c_61 => ?_)
            · skip
              refine lv_lconst (v := (0 : Int64)) hx hb d_X_refusalOf_70 (by decide) ?_
              have e_f : f_X_refusalOf μ i1 i2 a3 = (0 : Int64) := by
                exact (if_neg c_6).trans ((if_pos c_15).trans ((if_neg c_27).trans ((if_neg c_43).trans ((if_neg c_54).trans ((if_pos c_61).trans rfl)))))
              rw [e_f]
              exact W.lret (v := (0 : Int64)) hx hb hr (fun t ht hW => ⟨rfl, hM.end ht⟩) hM.2.2.1 d_X_refusalOf_71
            · skip
              refine lv_ldc2 (v := (-4 : Int64)) hx hb hown (hts _ kw_constantLong_242__4) d_X_refusalOf_64 ?_
              refine lv_goto (tgt := 71) hx hb d_X_refusalOf_67 (by decide) ?_
              have e_f : f_X_refusalOf μ i1 i2 a3 = (-4 : Int64) := by
                exact (if_neg c_6).trans ((if_pos c_15).trans ((if_neg c_27).trans ((if_neg c_43).trans ((if_neg c_54).trans ((if_neg c_61).trans rfl)))))
              rw [e_f]
              exact W.lret (v := (-4 : Int64)) hx hb hr (fun t ht hW => ⟨rfl, hM.end ht⟩) hM.2.2.1 d_X_refusalOf_71
        · skip
          refine lv_ldc2 (v := (-3 : Int64)) hx hb hown (hts _ kw_constantLong_238__3) d_X_refusalOf_46 ?_
          have e_f : f_X_refusalOf μ i1 i2 a3 = (-3 : Int64) := by
            exact (if_neg c_6).trans ((if_pos c_15).trans ((if_neg c_27).trans ((if_pos c_43).trans rfl)))
          rw [e_f]
          exact W.lret (v := (-3 : Int64)) hx hb hr (fun t ht hW => ⟨rfl, hM.end ht⟩) hM.2.2.1 d_X_refusalOf_49
      · skip
        refine lv_lconst (v := (0 : Int64)) hx hb d_X_refusalOf_30 (by decide) ?_
        have e_f : f_X_refusalOf μ i1 i2 a3 = (0 : Int64) := by
          exact (if_neg c_6).trans ((if_pos c_15).trans ((if_pos c_27).trans rfl))
        rw [e_f]
        exact W.lret (v := (0 : Int64)) hx hb hr (fun t ht hW => ⟨rfl, hM.end ht⟩) hM.2.2.1 d_X_refusalOf_31
    · skip
      refine lv_ldc2 (v := (-2 : Int64)) hx hb hown (hts _ kw_constantLong_236__2) d_X_refusalOf_18 ?_
      have e_f : f_X_refusalOf μ i1 i2 a3 = (-2 : Int64) := by
        exact (if_neg c_6).trans ((if_neg c_15).trans rfl)
      rw [e_f]
      exact W.lret (v := (-2 : Int64)) hx hb hr (fun t ht hW => ⟨rfl, hM.end ht⟩) hM.2.2.1 d_X_refusalOf_21
set_option maxHeartbeats 4000000 in
set_option maxRecDepth 100000 in
theorem c_C_sum (l : Launch) (G : mG) (τ : mTau) (μ : mMem) (a1 : Int32) : Met l y_C_sum w_C_sum r_C_sum (mPc G τ μ [.ref (τ.1 7 0), .int a1]) (mQ G τ (some (.long (f_C_sum μ a1))) μ) 0 0 (fun q => G.2.2.1 ≤ q) := by
  refine Met.ofW (cc := b_C_sum) (maxL := 2) (ret := (some .long)) (by decide) rfl ?_
  intro p e s m args below meth c s₁ B hml hv
  obtain ⟨rfl, hT, hM⟩ := hv
  have hx := B.exec
  have hb := B.bytes
  have hr := B.returns
  have hts : ∀ w ∈ gG, w.before _ s = true := fun w h => atoms_spec (ws := w_C_sum) B.pre w (List.mem_cons_of_mem _ h)
  have hown : s.vm.findClass R_C = some m.cls := findClass_of_methodNamed B.named
  have hlocks := B.notSynchronized
  have hl := lv_entry ([.ref (τ.1 7 0), .int a1]) (n := 2) (Nat.le_of_ble_eq_true rfl)
  rw [lg_entry_eq]
  skip
  generalize (lg_sl ([.ref (τ.1 7 0), .int a1]) ++ List.replicate (2 - (lg_sl ([.ref (τ.1 7 0), .int a1])).length) Slot.unset).toArray = ls at hl ⊢
  have hl : lv_has ls 2 [(0, .ref (τ.1 7 0)), (1, .int a1)] := hl
  refine lv_iload_n hx hb d_C_sum_0 rfl (lv_at hl 1 rfl) ?_
  refine q_C_22 hx hb hml hown hts hT hM (c_X_isSort l G τ μ a1) ⟨Nat.le_of_ble_eq_true rfl, Nat.le_of_ble_eq_true rfl⟩ ⟨Nat.zero_le _, Nat.zero_le _⟩ (lv_room (Nat.le_of_ble_eq_true rfl)) hl.1 d_C_sum_1 (fun H locs hM => ?_)
  refine lv_if_eq (tgt := 16) hx hb d_C_sum_4 (by decide) (fun c_4 => ?_) (fun c_4 => ?_)
  · skip
    refine lv_lconst (v := (0 : Int64)) hx hb d_C_sum_16 (by decide) ?_
    have e_f : f_C_sum μ a1 = (0 : Int64) := by
      exact (if_pos c_4).trans rfl
    rw [e_f]
    exact W.lret (v := (0 : Int64)) hx hb hr (fun t ht hW => ⟨rfl, hM.end ht⟩) hM.2.2.1 d_C_sum_17
  · skip
    have hs := sort_in c_4
    refine lv_aload_n hx hb d_C_sum_7 rfl (lv_at hl 0 rfl) ?_
    refine gf_C_18 hx hb hts hown hT hM (lz_7 hM) d_C_sum_8 ?_
    refine lv_iload_n hx hb d_C_sum_11 rfl (lv_at hl 1 rfl) ?_
    refine al_9 hx hb hT hM (lz_9 hM) (by first | assumption | exact vin 3 (b := 3) (by decide) (by assumption) (by assumption)) d_C_sum_12 ?_
    refine lv_goto (tgt := 17) hx hb d_C_sum_13 (by decide) ?_
    have e_f : f_C_sum μ a1 = μ.2 9 0 a1.toNatClampNeg := by
      exact (if_neg c_4).trans rfl
    rw [e_f]
    exact W.lret (v := μ.2 9 0 a1.toNatClampNeg) hx hb hr (fun t ht hW => ⟨rfl, hM.end ht⟩) hM.2.2.1 d_C_sum_17
set_option maxHeartbeats 4000000 in
set_option maxRecDepth 100000 in
theorem c_C_empty (l : Launch) (G : mG) (τ : mTau) (μ : mMem) (a1 : Int32) : Met l y_C_empty w_C_empty r_C_empty (mPc G τ μ [.ref (τ.1 7 0), .int a1]) (mQ G τ none (f_C_empty μ a1)) 0 0 (fun q => G.2.2.1 ≤ q) := by
  refine Met.ofW (cc := b_C_empty) (maxL := 2) (ret := none) (by decide) rfl ?_
  intro p e s m args below meth c s₁ B hml hv
  obtain ⟨rfl, hT, hM⟩ := hv
  have hx := B.exec
  have hb := B.bytes
  have hr := B.returns
  have hts : ∀ w ∈ gG, w.before _ s = true := fun w h => atoms_spec (ws := w_C_empty) B.pre w (List.mem_cons_of_mem _ h)
  have hown : s.vm.findClass R_C = some m.cls := findClass_of_methodNamed B.named
  have hlocks := B.notSynchronized
  have hl := lv_entry ([.ref (τ.1 7 0), .int a1]) (n := 2) (Nat.le_of_ble_eq_true rfl)
  rw [lg_entry_eq]
  skip
  generalize (lg_sl ([.ref (τ.1 7 0), .int a1]) ++ List.replicate (2 - (lg_sl ([.ref (τ.1 7 0), .int a1])).length) Slot.unset).toArray = ls at hl ⊢
  have hl : lv_has ls 2 [(0, .ref (τ.1 7 0)), (1, .int a1)] := hl
  refine lv_iload_n hx hb d_C_empty_0 rfl (lv_at hl 1 rfl) ?_
  refine q_C_22 hx hb hml hown hts hT hM (c_X_isSort l G τ μ a1) ⟨Nat.le_of_ble_eq_true rfl, Nat.le_of_ble_eq_true rfl⟩ ⟨Nat.zero_le _, Nat.zero_le _⟩ (lv_room (Nat.le_of_ble_eq_true rfl)) hl.1 d_C_empty_1 (fun H locs hM => ?_)
  refine lv_if_eq (tgt := 21) hx hb d_C_empty_4 (by decide) (fun c_4 => ?_) (fun c_4 => ?_)
  · skip
    have e_f : f_C_empty μ a1 = μ := by
      exact (if_pos c_4).trans rfl
    rw [e_f]
    exact W.vret hx hb hr (fun t ht hW => ⟨rfl, hM.end ht⟩) hM.2.2.1 d_C_empty_21
  · skip
    have hs := sort_in c_4
    refine lv_aload_n hx hb d_C_empty_7 rfl (lv_at hl 0 rfl) ?_
    refine gf_C_18 hx hb hts hown hT hM (lz_7 hM) d_C_empty_8 ?_
    refine lv_iload_n hx hb d_C_empty_11 rfl (lv_at hl 1 rfl) ?_
    refine lv_lconst (v := (0 : Int64)) hx hb d_C_empty_12 (by decide) ?_
    refine as_9 hx hb hT hM (lz_9 hM) (by first | assumption | exact vin 3 (b := 3) (by decide) (by assumption) (by assumption)) d_C_empty_13 (fun m_13 H locs e_13 hM => ?_)
    refine lv_aload_n hx hb d_C_empty_14 rfl (lv_at hl 0 rfl) ?_
    refine gf_C_13 hx hb hts hown hT hM (lz_7 hM) d_C_empty_15 ?_
    refine lv_iload_n hx hb d_C_empty_18 rfl (lv_at hl 1 rfl) ?_
    refine lv_iconst (v := (0 : Int32)) hx hb d_C_empty_19 (by decide) ?_
    refine as_8 hx hb hT hM (lz_8 hM) (by first | assumption | exact vin 3 (b := 3) (by decide) (by assumption) (by assumption)) d_C_empty_20 (fun m_20 H locs e_20 hM => ?_)
    have e_f : f_C_empty μ a1 = m_20 := by
      subst e_20 e_13
      exact (if_neg c_4).trans rfl
    rw [e_f]
    exact W.vret hx hb hr (fun t ht hW => ⟨rfl, hM.end ht⟩) hM.2.2.1 d_C_empty_21
set_option maxHeartbeats 4000000 in
set_option maxRecDepth 100000 in
theorem c_B_queue (l : Launch) (G : mG) (τ : mTau) (μ : mMem) (i0 : Nat) (hl0 : τ.2 3 i0) (a1 : Int32) (a2 : Int32) (a3 : Int64) (hI : iX μ) : Met l y_B_queue w_B_queue r_B_queue (mPc G τ μ [.ref (τ.1 3 i0), .int a1, .int a2, .long a3]) (mQ G τ none (f_B_queue μ i0 a1 a2 a3)) 0 0 (fun q => G.2.2.1 ≤ q) := by
  refine Met.ofW (cc := b_B_queue) (maxL := 5) (ret := none) (by decide) rfl ?_
  intro p e s m args below meth c s₁ B hml hv
  obtain ⟨rfl, hT, hM⟩ := hv
  have hx := B.exec
  have hb := B.bytes
  have hr := B.returns
  have hts : ∀ w ∈ gG, w.before _ s = true := fun w h => atoms_spec (ws := w_B_queue) B.pre w (List.mem_cons_of_mem _ h)
  have hown : s.vm.findClass R_B = some m.cls := findClass_of_methodNamed B.named
  have hlocks := B.notSynchronized
  have hl := lv_entry ([.ref (τ.1 3 i0), .int a1, .int a2, .long a3]) (n := 5) (Nat.le_of_ble_eq_true rfl)
  rw [lg_entry_eq]
  skip
  generalize (lg_sl ([.ref (τ.1 3 i0), .int a1, .int a2, .long a3]) ++ List.replicate (5 - (lg_sl ([.ref (τ.1 3 i0), .int a1, .int a2, .long a3])).length) Slot.unset).toArray = ls at hl ⊢
  have hl : lv_has ls 5 [(0, .ref (τ.1 3 i0)), (1, .int a1), (2, .int a2), (3, .long a3)] := hl
  refine lv_aload_n hx hb d_B_queue_0 rfl (lv_at hl 0 rfl) ?_
  refine q_B_32 hx hb hml hown hts hT hM hl0 (c_B_isFull l G τ μ i0 hl0) ⟨Nat.le_of_ble_eq_true rfl, Nat.le_of_ble_eq_true rfl⟩ ⟨Nat.zero_le _, Nat.zero_le _⟩ (lv_room (Nat.le_of_ble_eq_true rfl)) hl.1 d_B_queue_1 (fun H locs hM => ?_)
  refine lv_if_ne (tgt := 47) hx hb d_B_queue_4 (by decide) (fun c_4 => ?_) (fun c_4 => ?_)
  · skip
    have e_f : f_B_queue μ i0 a1 a2 a3 = μ := by
      exact (if_neg c_4).trans rfl
    rw [e_f]
    exact W.vret hx hb hr (fun t ht hW => ⟨rfl, hM.end ht⟩) hM.2.2.1 d_B_queue_47
  · skip
    have hw := in_wait hI c_4
    refine lv_aload_n hx hb d_B_queue_7 rfl (lv_at hl 0 rfl) ?_
    refine gf_B_9 hx hb hts hown hT hM hl0 d_B_queue_8 ?_
    have hv_8 : τ.2 4 i0 := lz_4 hM hl0
    refine lv_aload_n hx hb d_B_queue_11 rfl (lv_at hl 0 rfl) ?_
    refine gf_B_26 hx hb hts hown hT hM hl0 d_B_queue_12 ?_
    refine lv_iload_n hx hb d_B_queue_15 rfl (lv_at hl 1 rfl) ?_
    refine as_4 hx hb hT hM hv_8 (hw) d_B_queue_16 (fun m_16 H locs e_16 hM => ?_)
    have hI : iX m_16 := by rw [e_16]; exact iX_I hI rfl
    refine lv_aload_n hx hb d_B_queue_17 rfl (lv_at hl 0 rfl) ?_
    refine gf_B_15 hx hb hts hown hT hM hl0 d_B_queue_18 ?_
    have hv_18 : τ.2 5 i0 := lz_5 hM hl0
    refine lv_aload_n hx hb d_B_queue_21 rfl (lv_at hl 0 rfl) ?_
    refine gf_B_26 hx hb hts hown hT hM hl0 d_B_queue_22 ?_
    refine lv_iload_n hx hb d_B_queue_25 rfl (lv_at hl 2 rfl) ?_
    refine as_5 hx hb hT hM hv_18 (by rw [e_16]; exact hw) d_B_queue_26 (fun m_26 H locs e_26 hM => ?_)
    have hI : iX m_26 := by rw [e_26]; exact iX_I hI rfl
    refine lv_aload_n hx hb d_B_queue_27 rfl (lv_at hl 0 rfl) ?_
    refine gf_B_18 hx hb hts hown hT hM hl0 d_B_queue_28 ?_
    have hv_28 : τ.2 6 i0 := lz_6 hM hl0
    refine lv_aload_n hx hb d_B_queue_31 rfl (lv_at hl 0 rfl) ?_
    refine gf_B_26 hx hb hts hown hT hM hl0 d_B_queue_32 ?_
    refine lv_lload_n hx hb d_B_queue_35 rfl (lv_at hl 3 rfl) ?_
    refine as_6 hx hb hT hM hv_28 (by rw [e_26, e_16]; exact hw) d_B_queue_36 (fun m_36 H locs e_36 hM => ?_)
    have hI : iX m_36 := by rw [e_36]; exact iX_L hI rfl
    refine lv_aload_n hx hb d_B_queue_37 rfl (lv_at hl 0 rfl) ?_
    refine lv_dup hx hb d_B_queue_38 rfl ?_
    refine gf_B_26 hx hb hts hown hT hM hl0 d_B_queue_39 ?_
    refine lv_iconst (v := (1 : Int32)) hx hb d_B_queue_42 (by decide) ?_
    refine lv_iadd hx hb d_B_queue_43 ?_
    refine pf_B_26 hx hb hts hown hT hM hl0 d_B_queue_44 (fun m_44 H locs e_44 hM => ?_)
    have e_f : f_B_queue μ i0 a1 a2 a3 = m_44 := by
      subst e_44 e_36 e_26 e_16
      exact (if_pos c_4).trans rfl
    rw [e_f]
    exact W.vret hx hb hr (fun t ht hW => ⟨rfl, hM.end ht⟩) hM.2.2.1 d_B_queue_47
set_option maxHeartbeats 4000000 in
set_option maxRecDepth 100000 in
theorem c_P_outcome (l : Launch) (G : mG) (τ : mTau) (μ : mMem) (i0 : Nat) (hl0 : τ.2 11 i0) : Met l y_P_outcome w_P_outcome r_P_outcome (mPc G τ μ [.ref (τ.1 11 i0)]) (mQ G τ (some (.int (f_P_outcome μ i0).1)) (f_P_outcome μ i0).2) 0 0 (fun q => G.2.2.1 ≤ q) := by
  refine Met.ofW (cc := b_P_outcome) (maxL := 1) (ret := (some .int)) (by decide) rfl ?_
  intro p e s m args below meth c s₁ B hml hv
  obtain ⟨rfl, hT, hM⟩ := hv
  have hx := B.exec
  have hb := B.bytes
  have hr := B.returns
  have hts : ∀ w ∈ gG, w.before _ s = true := fun w h => atoms_spec (ws := w_P_outcome) B.pre w (List.mem_cons_of_mem _ h)
  have hown : s.vm.findClass R_P = some m.cls := findClass_of_methodNamed B.named
  have hlocks := B.notSynchronized
  have hl := lv_entry ([.ref (τ.1 11 i0)]) (n := 1) (Nat.le_of_ble_eq_true rfl)
  rw [lg_entry_eq]
  skip
  generalize (lg_sl ([.ref (τ.1 11 i0)]) ++ List.replicate (1 - (lg_sl ([.ref (τ.1 11 i0)])).length) Slot.unset).toArray = ls at hl ⊢
  have hl : lv_has ls 1 [(0, .ref (τ.1 11 i0))] := hl
  refine lv_aload_n hx hb d_P_outcome_0 rfl (lv_at hl 0 rfl) ?_
  refine gf_P_35 hx hb hts hown hT hM hl0 d_P_outcome_1 ?_
  refine lv_if_gt (tgt := 9) hx hb d_P_outcome_4 (by decide) (fun c_4 => ?_) (fun c_4 => ?_)
  · skip
    refine lv_aload_n hx hb d_P_outcome_9 rfl (lv_at hl 0 rfl) ?_
    refine lv_dup hx hb d_P_outcome_10 rfl ?_
    refine gf_P_35 hx hb hts hown hT hM hl0 d_P_outcome_11 ?_
    refine lv_iconst (v := (1 : Int32)) hx hb d_P_outcome_14 (by decide) ?_
    refine lv_isub hx hb d_P_outcome_15 ?_
    refine pf_P_35 hx hb hts hown hT hM hl0 d_P_outcome_16 (fun m_16 H locs e_16 hM => ?_)
    refine lv_aload_n hx hb d_P_outcome_19 rfl (lv_at hl 0 rfl) ?_
    refine gf_P_38 hx hb hts hown hT hM hl0 d_P_outcome_20 ?_
    have e_f : f_P_outcome μ i0 = (m_16.1 11 i0 7, m_16) := by
      subst e_16
      exact (if_pos c_4).trans rfl
    rw [e_f]
    exact W.iret (v := m_16.1 11 i0 7) hx hb hr (fun t ht hW => ⟨rfl, hM.end ht⟩) hM.2.2.1 d_P_outcome_23
  · skip
    refine lv_iconst (v := (0 : Int32)) hx hb d_P_outcome_7 (by decide) ?_
    have e_f : f_P_outcome μ i0 = ((0 : Int32), μ) := by
      exact (if_neg c_4).trans rfl
    rw [e_f]
    exact W.iret (v := (0 : Int32)) hx hb hr (fun t ht hW => ⟨rfl, hM.end ht⟩) hM.2.2.1 d_P_outcome_8
