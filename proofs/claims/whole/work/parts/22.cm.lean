set_option maxHeartbeats 4000000 in
set_option maxRecDepth 100000 in
theorem c_M_build (l : Launch) (G : mG) (τ : mTau) (μ : mMem) (a1 : Int32) (a2 : Int32) (hJ : iM μ) : Met l y_M_build w_M_build r_M_build (mPc G τ μ [.ref (τ.1 20 0), .int a1, .int a2]) (mQ G τ (some (.int (f_M_build μ a1 a2).1)) (f_M_build μ a1 a2).2) 0 0 (fun q => G.2.2.1 ≤ q) := by
  refine Met.ofW (cc := b_M_build) (maxL := 3) (ret := (some .boolean)) (by decide) rfl ?_
  intro p e s m args below meth c s₁ B hml hv
  obtain ⟨rfl, hT, hM⟩ := hv
  have hx := B.exec
  have hb := B.bytes
  have hr := B.returns
  have hts : ∀ w ∈ gG, w.before _ s = true := fun w h => atoms_spec (ws := w_M_build) B.pre w (List.mem_cons_of_mem _ h)
  have hown : s.vm.findClass R_M = some m.cls := findClass_of_methodNamed B.named
  have hlocks := B.notSynchronized
  have hl := lv_entry ([.ref (τ.1 20 0), .int a1, .int a2]) (n := 3) (Nat.le_of_ble_eq_true rfl)
  rw [lg_entry_eq]
  skip
  generalize (lg_sl ([.ref (τ.1 20 0), .int a1, .int a2]) ++ List.replicate (3 - (lg_sl ([.ref (τ.1 20 0), .int a1, .int a2])).length) Slot.unset).toArray = ls at hl ⊢
  have hl : lv_has ls 3 [(0, .ref (τ.1 20 0)), (1, .int a1), (2, .int a2)] := hl
  refine lv_aload_n hx hb d_M_build_0 rfl (lv_at hl 0 rfl) ?_
  refine lv_iconst (v := (0 : Int32)) hx hb d_M_build_1 (by decide) ?_
  refine pf_M_90 hx hb hts hown hT hM (lz_20 hM) d_M_build_2 (fun m_2 H locs e_2 hM => ?_)
  have hJ : iM m_2 := by rw [e_2]; exact iM_I hJ rfl
  refine lv_aload_n hx hb d_M_build_5 rfl (lv_at hl 0 rfl) ?_
  refine lv_iload_n hx hb d_M_build_6 rfl (lv_at hl 1 rfl) ?_
  refine q_M_140 hx hb hml hown hts hT hM (lz_20 hM) (c_M_isHouse l G τ m_2 a1 (hJ)) ⟨Nat.le_of_ble_eq_true rfl, Nat.le_of_ble_eq_true rfl⟩ ⟨Nat.zero_le _, Nat.zero_le _⟩ (lv_room (Nat.le_of_ble_eq_true rfl)) hl.1 d_M_build_7 (fun H locs hM => ?_)
  refine lv_if_eq (tgt := 33) hx hb d_M_build_10 (by decide) (fun c_10 => ?_) (fun c_10 => ?_)
  · skip
    refine lv_iconst (v := (0 : Int32)) hx hb d_M_build_33 (by decide) ?_
    have e_f : f_M_build μ a1 a2 = ((0 : Int32), m_2) := by
      subst e_2
      exact (if_pos c_10).trans rfl
    rw [e_f]
    exact W.zret (v := (0 : Int32)) hx hb hr rfl (fun t ht hW => ⟨rfl, hM.end ht⟩) hM.2.2.1 d_M_build_34
  · skip
    have ht := mh_in hJ c_10
    refine lv_aload_n hx hb d_M_build_13 rfl (lv_at hl 0 rfl) ?_
    refine gf_M_19 hx hb hts hown hT hM (lz_20 hM) d_M_build_14 ?_
    refine lv_iload_n hx hb d_M_build_17 rfl (lv_at hl 1 rfl) ?_
    refine al_25 hx hb hT hM (lz_25 hM) (by first | assumption | exact vin 60 (b := 60) (by decide) (by assumption) (by assumption)) d_M_build_18 ?_
    refine lv_if_gt (tgt := 33) hx hb d_M_build_19 (by decide) (fun c_19 => ?_) (fun c_19 => ?_)
    · skip
      refine lv_iconst (v := (0 : Int32)) hx hb d_M_build_33 (by decide) ?_
      have e_f : f_M_build μ a1 a2 = ((0 : Int32), m_2) := by
        subst e_2
        exact (if_neg c_10).trans ((if_pos c_19).trans rfl)
      rw [e_f]
      exact W.zret (v := (0 : Int32)) hx hb hr rfl (fun t ht hW => ⟨rfl, hM.end ht⟩) hM.2.2.1 d_M_build_34
    · skip
      refine lv_iload_n hx hb d_M_build_22 rfl (lv_at hl 2 rfl) ?_
      refine lv_iconst (v := (1 : Int32)) hx hb d_M_build_23 (by decide) ?_
      refine lv_icmp_lt (tgt := 33) hx hb d_M_build_24 (by decide) (fun c_24 => ?_) (fun c_24 => ?_)
      · skip
        refine lv_iconst (v := (0 : Int32)) hx hb d_M_build_33 (by decide) ?_
        have e_f : f_M_build μ a1 a2 = ((0 : Int32), m_2) := by
          subst e_2
          exact (if_neg c_10).trans ((if_neg c_19).trans ((if_pos c_24).trans rfl))
        rw [e_f]
        exact W.zret (v := (0 : Int32)) hx hb hr rfl (fun t ht hW => ⟨rfl, hM.end ht⟩) hM.2.2.1 d_M_build_34
      · skip
        refine lv_iload_n hx hb d_M_build_27 rfl (lv_at hl 2 rfl) ?_
        refine lv_bipush (v := (9 : Int32)) hx hb d_M_build_28 (by decide) ?_
        refine lv_icmp_le (tgt := 35) hx hb d_M_build_30 (by decide) (fun c_30 => ?_) (fun c_30 => ?_)
        · skip
          refine lv_aload_n hx hb d_M_build_35 rfl (lv_at hl 0 rfl) ?_
          refine gf_M_19 hx hb hts hown hT hM (lz_20 hM) d_M_build_36 ?_
          refine lv_iload_n hx hb d_M_build_39 rfl (lv_at hl 1 rfl) ?_
          refine lv_iload_n hx hb d_M_build_40 rfl (lv_at hl 2 rfl) ?_
          refine as_25 hx hb hT hM (lz_25 hM) (by first | assumption | exact vin 60 (b := 60) (by decide) (by assumption) (by assumption)) d_M_build_41 (fun m_41 H locs e_41 hM => ?_)
          have hJ : iM m_41 := by rw [e_41]; exact iM_I hJ rfl
          refine lv_aload_n hx hb d_M_build_42 rfl (lv_at hl 0 rfl) ?_
          refine gf_M_22 hx hb hts hown hT hM (lz_20 hM) d_M_build_43 ?_
          refine lv_iload_n hx hb d_M_build_46 rfl (lv_at hl 1 rfl) ?_
          refine lv_iconst (v := (0 : Int32)) hx hb d_M_build_47 (by decide) ?_
          refine as_26 hx hb hT hM (lz_26 hM) (by first | assumption | exact vin 60 (b := 60) (by decide) (by assumption) (by assumption)) d_M_build_48 (fun m_48 H locs e_48 hM => ?_)
          have hJ : iM m_48 := by rw [e_48]; exact iM_I hJ rfl
          refine lv_iconst (v := (1 : Int32)) hx hb d_M_build_49 (by decide) ?_
          have e_f : f_M_build μ a1 a2 = ((1 : Int32), m_48) := by
            subst e_48 e_41 e_2
            exact (if_neg c_10).trans ((if_neg c_19).trans ((if_neg c_24).trans ((if_pos c_30).trans rfl)))
          rw [e_f]
          exact W.zret (v := (1 : Int32)) hx hb hr rfl (fun t ht hW => ⟨rfl, hM.end ht⟩) hM.2.2.1 d_M_build_50
        · skip
          refine lv_iconst (v := (0 : Int32)) hx hb d_M_build_33 (by decide) ?_
          have e_f : f_M_build μ a1 a2 = ((0 : Int32), m_2) := by
            subst e_2
            exact (if_neg c_10).trans ((if_neg c_19).trans ((if_neg c_24).trans ((if_neg c_30).trans rfl)))
          rw [e_f]
          exact W.zret (v := (0 : Int32)) hx hb hr rfl (fun t ht hW => ⟨rfl, hM.end ht⟩) hM.2.2.1 d_M_build_34
set_option maxHeartbeats 4000000 in
set_option maxRecDepth 100000 in
theorem c_M_leastFor (l : Launch) (G : mG) (τ : mTau) (μ : mMem) (a1 : Int32) : Met l y_M_leastFor w_M_leastFor r_M_leastFor (mPc G τ μ [.ref (τ.1 20 0), .int a1]) (mQ G τ (some (.int (f_M_leastFor μ a1))) μ) 0 0 (fun q => G.2.2.1 ≤ q) := by
  refine Met.ofW (cc := b_M_leastFor) (maxL := 3) (ret := (some .int)) (by decide) rfl ?_
  intro p e s m args below meth c s₁ B hml hv
  obtain ⟨rfl, hT, hM⟩ := hv
  have hx := B.exec
  have hb := B.bytes
  have hr := B.returns
  have hts : ∀ w ∈ gG, w.before _ s = true := fun w h => atoms_spec (ws := w_M_leastFor) B.pre w (List.mem_cons_of_mem _ h)
  have hown : s.vm.findClass R_M = some m.cls := findClass_of_methodNamed B.named
  have hlocks := B.notSynchronized
  have loop_2 : ∀ (n : Nat) (x1 : Int32) (x2 : Int32) (μ1 : mMem) (H : Heap) (locs : List Loc) (ls : Array Slot), 0 ≤ x2.toInt → ((12 : Int) - x2.toInt).toNat < n → mw G τ μ1 H locs → lv_has ls 3 [(0, .ref (τ.1 20 0)), (1, .int x1), (2, .int x2)] → W p l e (headSpec (w_M_leastFor) (r_M_leastFor)).room s m ([.ref (τ.1 20 0), .int a1] : List Value).toArray below meth c H locs 0 0 (MQ below (mQ G τ (some (.int (f_M_leastFor_l2 n x1 x2 μ1))) μ1) ([.ref (τ.1 20 0), .int a1] : List Value).toArray s 0 0 (fun q => G.2.2.1 ≤ q)) (F0 m 2 ls []) := by
    intro n
    induction n with
    | zero => intro x1 x2 μ1 H locs ls  hp hn hM hl; exact absurd hn (Nat.not_lt_zero _)
    | succ n ih =>
      intro x1 x2 μ1 H locs ls  hp hn hM hl
      refine lv_iload_n hx hb d_M_leastFor_2 rfl (lv_at hl 2 rfl) ?_
      refine lv_bipush (v := (12 : Int32)) hx hb d_M_leastFor_3 (by decide) ?_
      refine lv_icmp_ge (tgt := 33) hx hb d_M_leastFor_5 (by decide) (fun c_5 => ?_) (fun c_5 => ?_)
      · skip
        refine lv_iload_n hx hb d_M_leastFor_33 rfl (lv_at hl 2 rfl) ?_
        refine lv_bipush (v := (12 : Int32)) hx hb d_M_leastFor_34 (by decide) ?_
        refine lv_icmp_ne (tgt := 43) hx hb d_M_leastFor_36 (by decide) (fun c_36 => ?_) (fun c_36 => ?_)
        · skip
          refine lv_iload_n hx hb d_M_leastFor_43 rfl (lv_at hl 2 rfl) ?_
          have e_f : f_M_leastFor_l2 (n + 1) x1 x2 μ1 = x2 := by
            exact (if_pos c_5).trans ((if_neg c_36).trans rfl)
          rw [e_f]
          exact W.iret (v := x2) hx hb hr (fun t ht hW => ⟨rfl, hM.end ht⟩) hM.2.2.1 d_M_leastFor_44
        · skip
          refine lv_iconst (v := (-1 : Int32)) hx hb d_M_leastFor_39 (by decide) ?_
          refine lv_goto (tgt := 44) hx hb d_M_leastFor_40 (by decide) ?_
          have e_f : f_M_leastFor_l2 (n + 1) x1 x2 μ1 = (-1 : Int32) := by
            exact (if_pos c_5).trans ((if_pos c_36).trans rfl)
          rw [e_f]
          exact W.iret (v := (-1 : Int32)) hx hb hr (fun t ht hW => ⟨rfl, hM.end ht⟩) hM.2.2.1 d_M_leastFor_44
      · skip
        refine lv_aload_n hx hb d_M_leastFor_8 rfl (lv_at hl 0 rfl) ?_
        refine gf_M_44 hx hb hts hown hT hM (lz_20 hM) d_M_leastFor_9 ?_
        refine lv_iload_n hx hb d_M_leastFor_12 rfl (lv_at hl 2 rfl) ?_
        refine al_33 hx hb hT hM (lz_33 hM) (vin 12 (by decide) (pos_lt hp) c_5) d_M_leastFor_13 ?_
        refine lv_if_eq (tgt := 27) hx hb d_M_leastFor_14 (by decide) (fun c_14 => ?_) (fun c_14 => ?_)
        · skip
          refine lv_iinc (v := x2 + (1 : Int32)) (lv' := [(2, .int (x2 + (1 : Int32))), (0, .ref (τ.1 20 0)), (1, .int x1)]) hx hb d_M_leastFor_27 hl (k := 2) rfl rfl (by decide) rfl (fun ls hl => ?_)
          refine lv_goto (tgt := 2) hx hb d_M_leastFor_30 (by decide) ?_
          have e_f : f_M_leastFor_l2 (n + 1) x1 x2 μ1 = f_M_leastFor_l2 n x1 (x2 + (1 : Int32)) μ1 := by
            exact (if_neg c_5).trans ((if_pos c_14).trans rfl)
          rw [e_f]
          exact ih x1 (x2 + (1 : Int32)) μ1 _ _ ls  (inc_pos hp c_5) (inc_ltk (by decide) c_5 hn) hM (lv_sub hl [1, 2, 0] rfl)
        · skip
          refine lv_aload_n hx hb d_M_leastFor_17 rfl (lv_at hl 0 rfl) ?_
          refine gf_M_48 hx hb hts hown hT hM (lz_20 hM) d_M_leastFor_18 ?_
          refine lv_iload_n hx hb d_M_leastFor_21 rfl (lv_at hl 2 rfl) ?_
          refine al_34 hx hb hT hM (lz_34 hM) (vin 12 (by decide) (pos_lt hp) c_5) d_M_leastFor_22 ?_
          refine lv_iload_n hx hb d_M_leastFor_23 rfl (lv_at hl 1 rfl) ?_
          refine lv_icmp_eq (tgt := 33) hx hb d_M_leastFor_24 (by decide) (fun c_24 => ?_) (fun c_24 => ?_)
          · skip
            refine lv_iload_n hx hb d_M_leastFor_33 rfl (lv_at hl 2 rfl) ?_
            refine lv_bipush (v := (12 : Int32)) hx hb d_M_leastFor_34 (by decide) ?_
            refine lv_icmp_ne (tgt := 43) hx hb d_M_leastFor_36 (by decide) (fun c_36 => ?_) (fun c_36 => ?_)
            · skip
              refine lv_iload_n hx hb d_M_leastFor_43 rfl (lv_at hl 2 rfl) ?_
              have e_f : f_M_leastFor_l2 (n + 1) x1 x2 μ1 = x2 := by
                exact (if_neg c_5).trans ((if_neg c_14).trans ((if_pos c_24).trans ((if_neg c_36).trans rfl)))
              rw [e_f]
              exact W.iret (v := x2) hx hb hr (fun t ht hW => ⟨rfl, hM.end ht⟩) hM.2.2.1 d_M_leastFor_44
            · skip
              refine lv_iconst (v := (-1 : Int32)) hx hb d_M_leastFor_39 (by decide) ?_
              refine lv_goto (tgt := 44) hx hb d_M_leastFor_40 (by decide) ?_
              have e_f : f_M_leastFor_l2 (n + 1) x1 x2 μ1 = (-1 : Int32) := by
                exact (if_neg c_5).trans ((if_neg c_14).trans ((if_pos c_24).trans ((if_pos c_36).trans rfl)))
              rw [e_f]
              exact W.iret (v := (-1 : Int32)) hx hb hr (fun t ht hW => ⟨rfl, hM.end ht⟩) hM.2.2.1 d_M_leastFor_44
          · skip
            refine lv_iinc (v := x2 + (1 : Int32)) (lv' := [(2, .int (x2 + (1 : Int32))), (0, .ref (τ.1 20 0)), (1, .int x1)]) hx hb d_M_leastFor_27 hl (k := 2) rfl rfl (by decide) rfl (fun ls hl => ?_)
            refine lv_goto (tgt := 2) hx hb d_M_leastFor_30 (by decide) ?_
            have e_f : f_M_leastFor_l2 (n + 1) x1 x2 μ1 = f_M_leastFor_l2 n x1 (x2 + (1 : Int32)) μ1 := by
              exact (if_neg c_5).trans ((if_neg c_14).trans ((if_neg c_24).trans rfl))
            rw [e_f]
            exact ih x1 (x2 + (1 : Int32)) μ1 _ _ ls  (inc_pos hp c_5) (inc_ltk (by decide) c_5 hn) hM (lv_sub hl [1, 2, 0] rfl)
  have hl := lv_entry ([.ref (τ.1 20 0), .int a1]) (n := 3) (Nat.le_of_ble_eq_true rfl)
  rw [lg_entry_eq]
  skip
  generalize (lg_sl ([.ref (τ.1 20 0), .int a1]) ++ List.replicate (3 - (lg_sl ([.ref (τ.1 20 0), .int a1])).length) Slot.unset).toArray = ls at hl ⊢
  have hl : lv_has ls 3 [(0, .ref (τ.1 20 0)), (1, .int a1)] := hl
  refine lv_iconst (v := (0 : Int32)) hx hb d_M_leastFor_0 (by decide) ?_
  refine lv_istore_n (lv' := [(2, .int (0 : Int32)), (0, .ref (τ.1 20 0)), (1, .int a1)]) hx hb d_M_leastFor_1 rfl hl (by decide) rfl (fun ls hl => ?_)
  have e_f : f_M_leastFor μ a1 = f_M_leastFor_l2 64 a1 (0 : Int32) μ := by
    exact rfl
  rw [e_f]
  exact loop_2 64 a1 (0 : Int32) μ _ _ ls  (by decide) (by decide) hM (lv_sub hl [1, 2, 0] rfl)
set_option maxHeartbeats 4000000 in
set_option maxRecDepth 100000 in
theorem c_M_turn (l : Launch) (G : mG) (τ : mTau) (μ : mMem) (a1 : Int32) (hJ : iM μ) (hk : 0 ≤ (μ.1 46 0 0).toInt ∧ (μ.1 46 0 0).toInt ≤ 1000000) : Met l y_M_turn w_M_turn r_M_turn (mPc G τ μ [.ref (τ.1 20 0), .int a1]) (mQ G τ (some (.int (f_M_turn μ a1).1)) (f_M_turn μ a1).2) 0 0 (fun q => G.2.2.1 ≤ q) := by
  refine Met.ofW (cc := b_M_turn) (maxL := 5) (ret := (some .int)) (by decide) rfl ?_
  intro p e s m args below meth c s₁ B hml hv
  obtain ⟨rfl, hT, hM⟩ := hv
  have hx := B.exec
  have hb := B.bytes
  have hr := B.returns
  have hts : ∀ w ∈ gG, w.before _ s = true := fun w h => atoms_spec (ws := w_M_turn) B.pre w (List.mem_cons_of_mem _ h)
  have hown : s.vm.findClass R_M = some m.cls := findClass_of_methodNamed B.named
  have hlocks := B.notSynchronized
  have loop_175 : ∀ (n : Nat) (x1 : Int32) (x2 : Int32) (x3 : Int32) (μ1 : mMem) (H : Heap) (locs : List Loc) (ls : Array Slot), iM μ1 → vp_in x1 60 → ((6 : Int32) * x1).toInt ≤ x3.toInt → 0 ≤ (μ1.1 46 0 0).toInt ∧ (μ1.1 46 0 0).toInt ≤ 2000000 + x3.toInt → ((((6 : Int32) * x1) + (μ1.1 27 0 x1.toNatClampNeg)).toInt - x3.toInt).toNat < n → mw G τ μ1 H locs → lv_has ls 5 [(0, .ref (τ.1 20 0)), (1, .int x1), (2, .int x2), (3, .int x3)] → W p l e (headSpec (w_M_turn) (r_M_turn)).room s m ([.ref (τ.1 20 0), .int a1] : List Value).toArray below meth c H locs 0 0 (MQ below (mQ G τ (some (.int (f_M_turn_l175 n x1 x2 x3 μ1).1)) (f_M_turn_l175 n x1 x2 x3 μ1).2) ([.ref (τ.1 20 0), .int a1] : List Value).toArray s 0 0 (fun q => G.2.2.1 ≤ q)) (F0 m 175 ls []) := by
    intro n
    induction n with
    | zero => intro x1 x2 x3 μ1 H locs ls  hJ ht hp hk hn hM hl; exact absurd hn (Nat.not_lt_zero _)
    | succ n ih =>
      intro x1 x2 x3 μ1 H locs ls  hJ ht hp hk hn hM hl
      refine lv_iload_n hx hb d_M_turn_175 rfl (lv_at hl 3 rfl) ?_
      refine lv_bipush (v := (6 : Int32)) hx hb d_M_turn_176 (by decide) ?_
      refine lv_iload_n hx hb d_M_turn_178 rfl (lv_at hl 1 rfl) ?_
      refine lv_imul hx hb d_M_turn_179 ?_
      refine lv_aload_n hx hb d_M_turn_180 rfl (lv_at hl 0 rfl) ?_
      refine gf_M_25 hx hb hts hown hT hM (lz_20 hM) d_M_turn_181 ?_
      refine lv_iload_n hx hb d_M_turn_184 rfl (lv_at hl 1 rfl) ?_
      refine al_27 hx hb hT hM (lz_27 hM) (by first | assumption | exact vin 60 (b := 60) (by decide) (by assumption) (by assumption)) d_M_turn_185 ?_
      refine lv_iadd hx hb d_M_turn_186 ?_
      refine lv_icmp_ge (tgt := 236) hx hb d_M_turn_187 (by decide) (fun c_187 => ?_) (fun c_187 => ?_)
      · skip
        refine lv_aload_n hx hb d_M_turn_236 rfl (lv_at hl 0 rfl) ?_
        refine gf_M_25 hx hb hts hown hT hM (lz_20 hM) d_M_turn_237 ?_
        refine lv_iload_n hx hb d_M_turn_240 rfl (lv_at hl 1 rfl) ?_
        refine lv_iconst (v := (0 : Int32)) hx hb d_M_turn_241 (by decide) ?_
        refine as_27 hx hb hT hM (lz_27 hM) (by first | assumption | exact vin 60 (b := 60) (by decide) (by assumption) (by assumption)) d_M_turn_242 (fun m_242 H locs e_242 hM => ?_)
        refine lv_iload_n hx hb d_M_turn_243 rfl (lv_at hl 2 rfl) ?_
        have e_f : f_M_turn_l175 (n + 1) x1 x2 x3 μ1 = (x2, m_242) := by
          subst e_242
          exact (if_pos c_187).trans rfl
        rw [e_f]
        exact W.iret (v := x2) hx hb hr (fun t ht hW => ⟨rfl, hM.end ht⟩) hM.2.2.1 d_M_turn_244
      · skip
        have hJq := hJ
        refine lv_aload_n hx hb d_M_turn_190 rfl (lv_at hl 0 rfl) ?_
        refine lv_aload_n hx hb d_M_turn_191 rfl (lv_at hl 0 rfl) ?_
        refine gf_M_28 hx hb hts hown hT hM (lz_20 hM) d_M_turn_192 ?_
        refine lv_iload_n hx hb d_M_turn_195 rfl (lv_at hl 3 rfl) ?_
        refine al_28 hx hb hT hM (lz_28 hM) (in_q hJ ht hp c_187) d_M_turn_196 ?_
        refine lv_aload_n hx hb d_M_turn_197 rfl (lv_at hl 0 rfl) ?_
        refine gf_M_34 hx hb hts hown hT hM (lz_20 hM) d_M_turn_198 ?_
        refine lv_iload_n hx hb d_M_turn_201 rfl (lv_at hl 3 rfl) ?_
        refine al_30 hx hb hT hM (lz_30 hM) (in_q hJ ht hp c_187) d_M_turn_202 ?_
        refine q_M_134 hx hb hml hown hts hT hM (lz_20 hM) (c_M_go l G τ μ1 (μ1.1 28 0 x3.toNatClampNeg) (μ1.2 30 0 x3.toNatClampNeg) (hJ.2.2.2.2.2.2.2.2 _) (nx5 hJ _)) ⟨Nat.le_of_ble_eq_true rfl, Nat.le_of_ble_eq_true rfl⟩ ⟨Nat.zero_le _, Nat.zero_le _⟩ (lv_room (Nat.le_of_ble_eq_true rfl)) hl.1 d_M_turn_203 (fun H locs hM => ?_)
        obtain ⟨m_203, e_203⟩ : ∃ z : mMem, z = (f_M_go μ1 (μ1.1 28 0 x3.toNatClampNeg) (μ1.2 30 0 x3.toNatClampNeg)) := ⟨_, rfl⟩
        rw [← e_203] at hM
        have hJ : iM m_203 := by rw [e_203]; exact iM_M_go hJ
        refine lv_aload_n hx hb d_M_turn_206 rfl (lv_at hl 0 rfl) ?_
        refine lv_aload_n hx hb d_M_turn_207 rfl (lv_at hl 0 rfl) ?_
        refine gf_M_113 hx hb hts hown hT hM (lz_20 hM) d_M_turn_208 ?_
        refine lv_aload_n hx hb d_M_turn_211 rfl (lv_at hl 0 rfl) ?_
        refine gf_M_31 hx hb hts hown hT hM (lz_20 hM) d_M_turn_212 ?_
        refine lv_iload_n hx hb d_M_turn_215 rfl (lv_at hl 3 rfl) ?_
        refine al_29 hx hb hT hM (lz_29 hM) (in_q hJq ht hp c_187) d_M_turn_216 ?_
        refine lv_aload_n hx hb d_M_turn_217 rfl (lv_at hl 0 rfl) ?_
        refine gf_M_28 hx hb hts hown hT hM (lz_20 hM) d_M_turn_218 ?_
        refine lv_iload_n hx hb d_M_turn_221 rfl (lv_at hl 3 rfl) ?_
        refine al_28 hx hb hT hM (lz_28 hM) (in_q hJq ht hp c_187) d_M_turn_222 ?_
        refine lv_aload_n hx hb d_M_turn_223 rfl (lv_at hl 0 rfl) ?_
        refine gf_M_116 hx hb hts hown hT hM (lz_20 hM) d_M_turn_224 ?_
        refine q_M_124 hx hb hml hown hts hT hM (lz_20 hM) (c_M_tell l G τ m_203 (m_203.1 20 0 28) (m_203.1 29 0 x3.toNatClampNeg) (m_203.1 28 0 x3.toNatClampNeg) (m_203.2 20 0 29) (by rw [e_203, go_46]; exact hk.1)) ⟨Nat.le_of_ble_eq_true rfl, Nat.le_of_ble_eq_true rfl⟩ ⟨Nat.zero_le _, Nat.zero_le _⟩ (lv_room (Nat.le_of_ble_eq_true rfl)) hl.1 d_M_turn_227 (fun H locs hM => ?_)
        obtain ⟨m_227, e_227⟩ : ∃ z : mMem, z = (f_M_tell m_203 (m_203.1 20 0 28) (m_203.1 29 0 x3.toNatClampNeg) (m_203.1 28 0 x3.toNatClampNeg) (m_203.2 20 0 29)) := ⟨_, rfl⟩
        rw [← e_227] at hM
        have hJ : iM m_227 := by rw [e_227]; exact iM_M_tell hJ
        refine lv_iinc (v := x3 + (1 : Int32)) (lv' := [(3, .int (x3 + (1 : Int32))), (0, .ref (τ.1 20 0)), (1, .int x1), (2, .int x2)]) hx hb d_M_turn_230 hl (k := 3) rfl rfl (by decide) rfl (fun ls hl => ?_)
        refine lv_goto (tgt := 175) hx hb d_M_turn_233 (by decide) ?_
        have e_f : f_M_turn_l175 (n + 1) x1 x2 x3 μ1 = f_M_turn_l175 n x1 x2 (x3 + (1 : Int32)) m_227 := by
          subst e_227 e_203
          exact (if_neg c_187).trans rfl
        rw [e_f]
        exact ih x1 x2 (x3 + (1 : Int32)) m_227 _ _ ls  (hJ) (ht) (inc_le hp c_187) (by rw [e_227, e_203]; exact tk2 (q_le hJq ht hp c_187) c_187 hk) (by rw [e_227, tell_27, e_203, go_27]; exact inc_lt c_187 hn) hM (lv_sub hl [1, 2, 3, 0] rfl)
  have loop_38 : ∀ (n : Nat) (x1 : Int32) (x2 : Int32) (x3 : Int32) (μ1 : mMem) (H : Heap) (locs : List Loc) (ls : Array Slot), iM μ1 → vp_in x1 60 → 0 ≤ x3.toInt ∧ x3.toInt ≤ 60 → 0 ≤ (μ1.1 46 0 0).toInt ∧ (μ1.1 46 0 0).toInt ≤ 1000000 + x3.toInt → ((μ1.1 20 0 1).toInt - x3.toInt).toNat < n → mw G τ μ1 H locs → lv_has ls 5 [(0, .ref (τ.1 20 0)), (1, .int x1), (2, .int x2), (3, .int x3)] → W p l e (headSpec (w_M_turn) (r_M_turn)).room s m ([.ref (τ.1 20 0), .int a1] : List Value).toArray below meth c H locs 0 0 (MQ below (mQ G τ (some (.int (f_M_turn_l38 n x1 x2 x3 μ1).1)) (f_M_turn_l38 n x1 x2 x3 μ1).2) ([.ref (τ.1 20 0), .int a1] : List Value).toArray s 0 0 (fun q => G.2.2.1 ≤ q)) (F0 m 38 ls []) := by
    intro n
    induction n with
    | zero => intro x1 x2 x3 μ1 H locs ls  hJ ht hp hk hn hM hl; exact absurd hn (Nat.not_lt_zero _)
    | succ n ih =>
      intro x1 x2 x3 μ1 H locs ls  hJ ht hp hk hn hM hl
      refine lv_iload_n hx hb d_M_turn_38 rfl (lv_at hl 3 rfl) ?_
      refine lv_aload_n hx hb d_M_turn_39 rfl (lv_at hl 0 rfl) ?_
      refine gf_M_94 hx hb hts hown hT hM (lz_20 hM) d_M_turn_40 ?_
      refine lv_icmp_ge (tgt := 149) hx hb d_M_turn_43 (by decide) (fun c_43 => ?_) (fun c_43 => ?_)
      · skip
        refine lv_aload_n hx hb d_M_turn_149 rfl (lv_at hl 0 rfl) ?_
        refine gf_M_19 hx hb hts hown hT hM (lz_20 hM) d_M_turn_150 ?_
        refine lv_iload_n hx hb d_M_turn_153 rfl (lv_at hl 1 rfl) ?_
        refine lv_dup2_11 hx hb d_M_turn_154 rfl rfl ?_
        refine al_25 hx hb hT hM (lz_25 hM) (by first | assumption | exact vin 60 (b := 60) (by decide) (by assumption) (by assumption)) d_M_turn_155 ?_
        refine lv_iconst (v := (1 : Int32)) hx hb d_M_turn_156 (by decide) ?_
        refine lv_isub hx hb d_M_turn_157 ?_
        refine as_25 hx hb hT hM (lz_25 hM) (by first | assumption | exact vin 60 (b := 60) (by decide) (by assumption) (by assumption)) d_M_turn_158 (fun m_158 H locs e_158 hM => ?_)
        have hJ : iM m_158 := by rw [e_158]; exact iM_I hJ rfl
        refine lv_aload_n hx hb d_M_turn_159 rfl (lv_at hl 0 rfl) ?_
        refine gf_M_19 hx hb hts hown hT hM (lz_20 hM) d_M_turn_160 ?_
        refine lv_iload_n hx hb d_M_turn_163 rfl (lv_at hl 1 rfl) ?_
        refine al_25 hx hb hT hM (lz_25 hM) (by first | assumption | exact vin 60 (b := 60) (by decide) (by assumption) (by assumption)) d_M_turn_164 ?_
        refine lv_if_le (tgt := 170) hx hb d_M_turn_165 (by decide) (fun c_165 => ?_) (fun c_165 => ?_)
        · skip
          refine lv_bipush (v := (6 : Int32)) hx hb d_M_turn_170 (by decide) ?_
          refine lv_iload_n hx hb d_M_turn_172 rfl (lv_at hl 1 rfl) ?_
          refine lv_imul hx hb d_M_turn_173 ?_
          refine lv_istore_n (lv' := [(3, .int ((6 : Int32) * x1)), (0, .ref (τ.1 20 0)), (1, .int x1), (2, .int x2)]) hx hb d_M_turn_174 rfl hl (by decide) rfl (fun ls hl => ?_)
          have e_f : f_M_turn_l38 (n + 1) x1 x2 x3 μ1 = f_M_turn_l175 64 x1 x2 ((6 : Int32) * x1) m_158 := by
            subst e_158
            exact (if_pos c_43).trans ((if_pos c_165).trans rfl)
          rw [e_f]
          exact loop_175 64 x1 x2 ((6 : Int32) * x1) m_158 _ _ ls  (hJ) (ht) (Int.le_refl _) (by rw [e_158]; exact tk3 ht hk hp.2) (fuel_wait hJ ht) hM (lv_sub hl [1, 2, 3, 0] rfl)
        · skip
          refine lv_iload_n hx hb d_M_turn_168 rfl (lv_at hl 2 rfl) ?_
          have e_f : f_M_turn_l38 (n + 1) x1 x2 x3 μ1 = (x2, m_158) := by
            subst e_158
            exact (if_pos c_43).trans ((if_neg c_165).trans rfl)
          rw [e_f]
          exact W.iret (v := x2) hx hb hr (fun t ht hW => ⟨rfl, hM.end ht⟩) hM.2.2.1 d_M_turn_169
      · skip
        have hJ0 := hJ
        refine lv_aload_n hx hb d_M_turn_46 rfl (lv_at hl 0 rfl) ?_
        refine gf_M_7 hx hb hts hown hT hM (lz_20 hM) d_M_turn_47 ?_
        refine lv_iload_n hx hb d_M_turn_50 rfl (lv_at hl 3 rfl) ?_
        refine al_22 hx hb hT hM (lz_22 hM) (in_madeM hJ (pos_lt hp.1) c_43) d_M_turn_51 ?_
        refine lv_iconst (v := (4 : Int32)) hx hb d_M_turn_52 (by decide) ?_
        refine lv_icmp_eq (tgt := 66) hx hb d_M_turn_53 (by decide) (fun c_53 => ?_) (fun c_53 => ?_)
        · skip
          refine lv_aload_n hx hb d_M_turn_66 rfl (lv_at hl 0 rfl) ?_
          refine gf_M_16 hx hb hts hown hT hM (lz_20 hM) d_M_turn_67 ?_
          refine lv_iload_n hx hb d_M_turn_70 rfl (lv_at hl 3 rfl) ?_
          refine al_24 hx hb hT hM (lz_24 hM) (in_madeM hJ (pos_lt hp.1) c_43) d_M_turn_71 ?_
          refine lv_iload_n hx hb d_M_turn_72 rfl (lv_at hl 1 rfl) ?_
          refine lv_icmp_eq (tgt := 79) hx hb d_M_turn_73 (by decide) (fun c_73 => ?_) (fun c_73 => ?_)
          · skip
            refine lv_aload_n hx hb d_M_turn_79 rfl (lv_at hl 0 rfl) ?_
            refine lv_aload_n hx hb d_M_turn_80 rfl (lv_at hl 0 rfl) ?_
            refine gf_M_7 hx hb hts hown hT hM (lz_20 hM) d_M_turn_81 ?_
            refine lv_iload_n hx hb d_M_turn_84 rfl (lv_at hl 3 rfl) ?_
            refine al_22 hx hb hT hM (lz_22 hM) (in_madeM hJ (pos_lt hp.1) c_43) d_M_turn_85 ?_
            refine q_M_143 hx hb hml hown hts hT hM (lz_20 hM) (c_M_leastFor l G τ μ1 (μ1.1 22 0 x3.toNatClampNeg)) ⟨Nat.le_of_ble_eq_true rfl, Nat.le_of_ble_eq_true rfl⟩ ⟨Nat.zero_le _, Nat.zero_le _⟩ (lv_room (Nat.le_of_ble_eq_true rfl)) hl.1 d_M_turn_86 (fun H locs hM => ?_)
            refine lv_istore (lv' := [(4, .int (f_M_leastFor μ1 (μ1.1 22 0 x3.toNatClampNeg))), (0, .ref (τ.1 20 0)), (1, .int x1), (2, .int x2), (3, .int x3)]) hx hb d_M_turn_89 hl (by decide) rfl (fun ls hl => ?_)
            refine lv_iload hx hb d_M_turn_91 (lv_at hl 0 rfl) ?_
            refine lv_iconst (v := (-1 : Int32)) hx hb d_M_turn_93 (by decide) ?_
            refine lv_icmp_ne (tgt := 100) hx hb d_M_turn_94 (by decide) (fun c_94 => ?_) (fun c_94 => ?_)
            · skip
              refine lv_aload_n hx hb d_M_turn_100 rfl (lv_at hl 1 rfl) ?_
              refine lv_iload hx hb d_M_turn_101 (lv_at hl 0 rfl) ?_
              refine lv_aload_n hx hb d_M_turn_103 rfl (lv_at hl 1 rfl) ?_
              refine gf_M_22 hx hb hts hown hT hM (lz_20 hM) d_M_turn_104 ?_
              refine lv_iload_n hx hb d_M_turn_107 rfl (lv_at hl 2 rfl) ?_
              refine al_26 hx hb hT hM (lz_26 hM) (by first | assumption | exact vin 60 (b := 60) (by decide) (by assumption) (by assumption)) d_M_turn_108 ?_
              refine lv_i2l hx hb d_M_turn_109 rfl ?_
              refine q_M_134 hx hb hml hown hts hT hM (lz_20 hM) (c_M_go l G τ μ1 (f_M_leastFor μ1 (μ1.1 22 0 x3.toNatClampNeg)) ((μ1.1 26 0 x1.toNatClampNeg).toInt64) (least_in c_94) (nx5 hJ _)) ⟨Nat.le_of_ble_eq_true rfl, Nat.le_of_ble_eq_true rfl⟩ ⟨Nat.zero_le _, Nat.zero_le _⟩ (lv_room (Nat.le_of_ble_eq_true rfl)) hl.1 d_M_turn_110 (fun H locs hM => ?_)
              obtain ⟨m_110, e_110⟩ : ∃ z : mMem, z = (f_M_go μ1 (f_M_leastFor μ1 (μ1.1 22 0 x3.toNatClampNeg)) ((μ1.1 26 0 x1.toNatClampNeg).toInt64)) := ⟨_, rfl⟩
              rw [← e_110] at hM
              have hJ : iM m_110 := by rw [e_110]; exact iM_M_go hJ
              refine lv_iload_n hx hb d_M_turn_113 rfl (lv_at hl 3 rfl) ?_
              refine lv_aload_n hx hb d_M_turn_114 rfl (lv_at hl 1 rfl) ?_
              refine gf_M_113 hx hb hts hown hT hM (lz_20 hM) d_M_turn_115 ?_
              refine lv_if_ne (tgt := 125) hx hb d_M_turn_118 (by decide) (fun c_118 => ?_) (fun c_118 => ?_)
              · skip
                refine lv_iconst (v := (0 : Int32)) hx hb d_M_turn_125 (by decide) ?_
                refine lv_iadd hx hb d_M_turn_126 ?_
                refine lv_istore_n (lv' := [(2, .int (x2 + (0 : Int32))), (4, .int (f_M_leastFor μ1 (μ1.1 22 0 x3.toNatClampNeg))), (0, .ref (τ.1 20 0)), (1, .int x1), (3, .int x3)]) hx hb d_M_turn_127 rfl hl (by decide) rfl (fun ls hl => ?_)
                refine lv_aload_n hx hb d_M_turn_128 rfl (lv_at hl 2 rfl) ?_
                refine lv_aload_n hx hb d_M_turn_129 rfl (lv_at hl 2 rfl) ?_
                refine gf_M_113 hx hb hts hown hT hM (lz_20 hM) d_M_turn_130 ?_
                refine lv_iload_n hx hb d_M_turn_133 rfl (lv_at hl 4 rfl) ?_
                refine lv_iload hx hb d_M_turn_134 (lv_at hl 1 rfl) ?_
                refine lv_aload_n hx hb d_M_turn_136 rfl (lv_at hl 2 rfl) ?_
                refine gf_M_116 hx hb hts hown hT hM (lz_20 hM) d_M_turn_137 ?_
                refine q_M_124 hx hb hml hown hts hT hM (lz_20 hM) (c_M_tell l G τ m_110 (m_110.1 20 0 28) x3 (f_M_leastFor μ1 (μ1.1 22 0 x3.toNatClampNeg)) (m_110.2 20 0 29) (by rw [e_110, go_46]; exact hk.1)) ⟨Nat.le_of_ble_eq_true rfl, Nat.le_of_ble_eq_true rfl⟩ ⟨Nat.zero_le _, Nat.zero_le _⟩ (lv_room (Nat.le_of_ble_eq_true rfl)) hl.1 d_M_turn_140 (fun H locs hM => ?_)
                obtain ⟨m_140, e_140⟩ : ∃ z : mMem, z = (f_M_tell m_110 (m_110.1 20 0 28) x3 (f_M_leastFor μ1 (μ1.1 22 0 x3.toNatClampNeg)) (m_110.2 20 0 29)) := ⟨_, rfl⟩
                rw [← e_140] at hM
                have hJ : iM m_140 := by rw [e_140]; exact iM_M_tell hJ
                refine lv_iinc (v := x3 + (1 : Int32)) (lv' := [(3, .int (x3 + (1 : Int32))), (2, .int (x2 + (0 : Int32))), (4, .int (f_M_leastFor μ1 (μ1.1 22 0 x3.toNatClampNeg))), (0, .ref (τ.1 20 0)), (1, .int x1)]) hx hb d_M_turn_143 hl (k := 4) rfl rfl (by decide) rfl (fun ls hl => ?_)
                refine lv_goto (tgt := 38) hx hb d_M_turn_146 (by decide) ?_
                have e_f : f_M_turn_l38 (n + 1) x1 x2 x3 μ1 = f_M_turn_l38 n x1 (x2 + (0 : Int32)) (x3 + (1 : Int32)) m_140 := by
                  subst e_140 e_110
                  exact (if_neg c_43).trans ((if_pos c_53).trans ((if_pos c_73).trans ((if_neg c_94).trans ((if_neg c_118).trans rfl))))
                rw [e_f]
                exact ih x1 (x2 + (0 : Int32)) (x3 + (1 : Int32)) m_140 _ _ ls  (hJ) (ht) (⟨inc_pos hp.1 c_43, le60 hJ0 c_43⟩) (by first | exact tk1 c_43 hk | (rw [e_140, e_110]; exact tk2 (Int.le_trans hp.2 (by decide)) c_43 hk)) (by first | exact inc_lt c_43 hn | (rw [e_140, tell_20, e_110, go_made]; exact inc_lt c_43 hn)) hM (lv_sub hl [3, 4, 1, 0] rfl)
              · skip
                refine lv_iconst (v := (1 : Int32)) hx hb d_M_turn_121 (by decide) ?_
                refine lv_goto (tgt := 126) hx hb d_M_turn_122 (by decide) ?_
                refine lv_iadd hx hb d_M_turn_126 ?_
                refine lv_istore_n (lv' := [(2, .int (x2 + (1 : Int32))), (4, .int (f_M_leastFor μ1 (μ1.1 22 0 x3.toNatClampNeg))), (0, .ref (τ.1 20 0)), (1, .int x1), (3, .int x3)]) hx hb d_M_turn_127 rfl hl (by decide) rfl (fun ls hl => ?_)
                refine lv_aload_n hx hb d_M_turn_128 rfl (lv_at hl 2 rfl) ?_
                refine lv_aload_n hx hb d_M_turn_129 rfl (lv_at hl 2 rfl) ?_
                refine gf_M_113 hx hb hts hown hT hM (lz_20 hM) d_M_turn_130 ?_
                refine lv_iload_n hx hb d_M_turn_133 rfl (lv_at hl 4 rfl) ?_
                refine lv_iload hx hb d_M_turn_134 (lv_at hl 1 rfl) ?_
                refine lv_aload_n hx hb d_M_turn_136 rfl (lv_at hl 2 rfl) ?_
                refine gf_M_116 hx hb hts hown hT hM (lz_20 hM) d_M_turn_137 ?_
                refine q_M_124 hx hb hml hown hts hT hM (lz_20 hM) (c_M_tell l G τ m_110 (m_110.1 20 0 28) x3 (f_M_leastFor μ1 (μ1.1 22 0 x3.toNatClampNeg)) (m_110.2 20 0 29) (by rw [e_110, go_46]; exact hk.1)) ⟨Nat.le_of_ble_eq_true rfl, Nat.le_of_ble_eq_true rfl⟩ ⟨Nat.zero_le _, Nat.zero_le _⟩ (lv_room (Nat.le_of_ble_eq_true rfl)) hl.1 d_M_turn_140 (fun H locs hM => ?_)
                obtain ⟨m_140, e_140⟩ : ∃ z : mMem, z = (f_M_tell m_110 (m_110.1 20 0 28) x3 (f_M_leastFor μ1 (μ1.1 22 0 x3.toNatClampNeg)) (m_110.2 20 0 29)) := ⟨_, rfl⟩
                rw [← e_140] at hM
                have hJ : iM m_140 := by rw [e_140]; exact iM_M_tell hJ
                refine lv_iinc (v := x3 + (1 : Int32)) (lv' := [(3, .int (x3 + (1 : Int32))), (2, .int (x2 + (1 : Int32))), (4, .int (f_M_leastFor μ1 (μ1.1 22 0 x3.toNatClampNeg))), (0, .ref (τ.1 20 0)), (1, .int x1)]) hx hb d_M_turn_143 hl (k := 4) rfl rfl (by decide) rfl (fun ls hl => ?_)
                refine lv_goto (tgt := 38) hx hb d_M_turn_146 (by decide) ?_
                have e_f : f_M_turn_l38 (n + 1) x1 x2 x3 μ1 = f_M_turn_l38 n x1 (x2 + (1 : Int32)) (x3 + (1 : Int32)) m_140 := by
                  subst e_140 e_110
                  exact (if_neg c_43).trans ((if_pos c_53).trans ((if_pos c_73).trans ((if_neg c_94).trans ((if_pos c_118).trans rfl))))
                rw [e_f]
                exact ih x1 (x2 + (1 : Int32)) (x3 + (1 : Int32)) m_140 _ _ ls  (hJ) (ht) (⟨inc_pos hp.1 c_43, le60 hJ0 c_43⟩) (by first | exact tk1 c_43 hk | (rw [e_140, e_110]; exact tk2 (Int.le_trans hp.2 (by decide)) c_43 hk)) (by first | exact inc_lt c_43 hn | (rw [e_140, tell_20, e_110, go_made]; exact inc_lt c_43 hn)) hM (lv_sub hl [3, 4, 1, 0] rfl)
            · skip
              refine lv_goto (tgt := 143) hx hb d_M_turn_97 (by decide) ?_
              refine lv_iinc (v := x3 + (1 : Int32)) (lv' := [(3, .int (x3 + (1 : Int32))), (4, .int (f_M_leastFor μ1 (μ1.1 22 0 x3.toNatClampNeg))), (0, .ref (τ.1 20 0)), (1, .int x1), (2, .int x2)]) hx hb d_M_turn_143 hl (k := 4) rfl rfl (by decide) rfl (fun ls hl => ?_)
              refine lv_goto (tgt := 38) hx hb d_M_turn_146 (by decide) ?_
              have e_f : f_M_turn_l38 (n + 1) x1 x2 x3 μ1 = f_M_turn_l38 n x1 x2 (x3 + (1 : Int32)) μ1 := by
                exact (if_neg c_43).trans ((if_pos c_53).trans ((if_pos c_73).trans ((if_pos c_94).trans rfl)))
              rw [e_f]
              exact ih x1 x2 (x3 + (1 : Int32)) μ1 _ _ ls  (hJ) (ht) (⟨inc_pos hp.1 c_43, le60 hJ0 c_43⟩) (by first | exact tk1 c_43 hk | (rw [e_140, e_110]; exact tk2 (Int.le_trans hp.2 (by decide)) c_43 hk)) (by first | exact inc_lt c_43 hn | (rw [e_140, tell_20, e_110, go_made]; exact inc_lt c_43 hn)) hM (lv_sub hl [2, 3, 4, 0] rfl)
          · skip
            refine lv_goto (tgt := 143) hx hb d_M_turn_76 (by decide) ?_
            refine lv_iinc (v := x3 + (1 : Int32)) (lv' := [(3, .int (x3 + (1 : Int32))), (0, .ref (τ.1 20 0)), (1, .int x1), (2, .int x2)]) hx hb d_M_turn_143 hl (k := 3) rfl rfl (by decide) rfl (fun ls hl => ?_)
            refine lv_goto (tgt := 38) hx hb d_M_turn_146 (by decide) ?_
            have e_f : f_M_turn_l38 (n + 1) x1 x2 x3 μ1 = f_M_turn_l38 n x1 x2 (x3 + (1 : Int32)) μ1 := by
              exact (if_neg c_43).trans ((if_pos c_53).trans ((if_neg c_73).trans rfl))
            rw [e_f]
            exact ih x1 x2 (x3 + (1 : Int32)) μ1 _ _ ls  (hJ) (ht) (⟨inc_pos hp.1 c_43, le60 hJ0 c_43⟩) (by first | exact tk1 c_43 hk | (rw [e_140, e_110]; exact tk2 (Int.le_trans hp.2 (by decide)) c_43 hk)) (by first | exact inc_lt c_43 hn | (rw [e_140, tell_20, e_110, go_made]; exact inc_lt c_43 hn)) hM (lv_sub hl [1, 2, 3, 0] rfl)
        · skip
          refine lv_aload_n hx hb d_M_turn_56 rfl (lv_at hl 0 rfl) ?_
          refine gf_M_7 hx hb hts hown hT hM (lz_20 hM) d_M_turn_57 ?_
          refine lv_iload_n hx hb d_M_turn_60 rfl (lv_at hl 3 rfl) ?_
          refine al_22 hx hb hT hM (lz_22 hM) (in_madeM hJ (pos_lt hp.1) c_43) d_M_turn_61 ?_
          refine lv_iconst (v := (5 : Int32)) hx hb d_M_turn_62 (by decide) ?_
          refine lv_icmp_ne (tgt := 143) hx hb d_M_turn_63 (by decide) (fun c_63 => ?_) (fun c_63 => ?_)
          · skip
            refine lv_iinc (v := x3 + (1 : Int32)) (lv' := [(3, .int (x3 + (1 : Int32))), (0, .ref (τ.1 20 0)), (1, .int x1), (2, .int x2)]) hx hb d_M_turn_143 hl (k := 3) rfl rfl (by decide) rfl (fun ls hl => ?_)
            refine lv_goto (tgt := 38) hx hb d_M_turn_146 (by decide) ?_
            have e_f : f_M_turn_l38 (n + 1) x1 x2 x3 μ1 = f_M_turn_l38 n x1 x2 (x3 + (1 : Int32)) μ1 := by
              exact (if_neg c_43).trans ((if_neg c_53).trans ((if_neg c_63).trans rfl))
            rw [e_f]
            exact ih x1 x2 (x3 + (1 : Int32)) μ1 _ _ ls  (hJ) (ht) (⟨inc_pos hp.1 c_43, le60 hJ0 c_43⟩) (by first | exact tk1 c_43 hk | (rw [e_140, e_110]; exact tk2 (Int.le_trans hp.2 (by decide)) c_43 hk)) (by first | exact inc_lt c_43 hn | (rw [e_140, tell_20, e_110, go_made]; exact inc_lt c_43 hn)) hM (lv_sub hl [1, 2, 3, 0] rfl)
          · skip
            refine lv_aload_n hx hb d_M_turn_66 rfl (lv_at hl 0 rfl) ?_
            refine gf_M_16 hx hb hts hown hT hM (lz_20 hM) d_M_turn_67 ?_
            refine lv_iload_n hx hb d_M_turn_70 rfl (lv_at hl 3 rfl) ?_
            refine al_24 hx hb hT hM (lz_24 hM) (in_madeM hJ (pos_lt hp.1) c_43) d_M_turn_71 ?_
            refine lv_iload_n hx hb d_M_turn_72 rfl (lv_at hl 1 rfl) ?_
            refine lv_icmp_eq (tgt := 79) hx hb d_M_turn_73 (by decide) (fun c_73 => ?_) (fun c_73 => ?_)
            · skip
              refine lv_aload_n hx hb d_M_turn_79 rfl (lv_at hl 0 rfl) ?_
              refine lv_aload_n hx hb d_M_turn_80 rfl (lv_at hl 0 rfl) ?_
              refine gf_M_7 hx hb hts hown hT hM (lz_20 hM) d_M_turn_81 ?_
              refine lv_iload_n hx hb d_M_turn_84 rfl (lv_at hl 3 rfl) ?_
              refine al_22 hx hb hT hM (lz_22 hM) (in_madeM hJ (pos_lt hp.1) c_43) d_M_turn_85 ?_
              refine q_M_143 hx hb hml hown hts hT hM (lz_20 hM) (c_M_leastFor l G τ μ1 (μ1.1 22 0 x3.toNatClampNeg)) ⟨Nat.le_of_ble_eq_true rfl, Nat.le_of_ble_eq_true rfl⟩ ⟨Nat.zero_le _, Nat.zero_le _⟩ (lv_room (Nat.le_of_ble_eq_true rfl)) hl.1 d_M_turn_86 (fun H locs hM => ?_)
              refine lv_istore (lv' := [(4, .int (f_M_leastFor μ1 (μ1.1 22 0 x3.toNatClampNeg))), (0, .ref (τ.1 20 0)), (1, .int x1), (2, .int x2), (3, .int x3)]) hx hb d_M_turn_89 hl (by decide) rfl (fun ls hl => ?_)
              refine lv_iload hx hb d_M_turn_91 (lv_at hl 0 rfl) ?_
              refine lv_iconst (v := (-1 : Int32)) hx hb d_M_turn_93 (by decide) ?_
              refine lv_icmp_ne (tgt := 100) hx hb d_M_turn_94 (by decide) (fun c_94 => ?_) (fun c_94 => ?_)
              · skip
                refine lv_aload_n hx hb d_M_turn_100 rfl (lv_at hl 1 rfl) ?_
                refine lv_iload hx hb d_M_turn_101 (lv_at hl 0 rfl) ?_
                refine lv_aload_n hx hb d_M_turn_103 rfl (lv_at hl 1 rfl) ?_
                refine gf_M_22 hx hb hts hown hT hM (lz_20 hM) d_M_turn_104 ?_
                refine lv_iload_n hx hb d_M_turn_107 rfl (lv_at hl 2 rfl) ?_
                refine al_26 hx hb hT hM (lz_26 hM) (by first | assumption | exact vin 60 (b := 60) (by decide) (by assumption) (by assumption)) d_M_turn_108 ?_
                refine lv_i2l hx hb d_M_turn_109 rfl ?_
                refine q_M_134 hx hb hml hown hts hT hM (lz_20 hM) (c_M_go l G τ μ1 (f_M_leastFor μ1 (μ1.1 22 0 x3.toNatClampNeg)) ((μ1.1 26 0 x1.toNatClampNeg).toInt64) (least_in c_94) (nx5 hJ _)) ⟨Nat.le_of_ble_eq_true rfl, Nat.le_of_ble_eq_true rfl⟩ ⟨Nat.zero_le _, Nat.zero_le _⟩ (lv_room (Nat.le_of_ble_eq_true rfl)) hl.1 d_M_turn_110 (fun H locs hM => ?_)
                obtain ⟨m_110, e_110⟩ : ∃ z : mMem, z = (f_M_go μ1 (f_M_leastFor μ1 (μ1.1 22 0 x3.toNatClampNeg)) ((μ1.1 26 0 x1.toNatClampNeg).toInt64)) := ⟨_, rfl⟩
                rw [← e_110] at hM
                have hJ : iM m_110 := by rw [e_110]; exact iM_M_go hJ
                refine lv_iload_n hx hb d_M_turn_113 rfl (lv_at hl 3 rfl) ?_
                refine lv_aload_n hx hb d_M_turn_114 rfl (lv_at hl 1 rfl) ?_
                refine gf_M_113 hx hb hts hown hT hM (lz_20 hM) d_M_turn_115 ?_
                refine lv_if_ne (tgt := 125) hx hb d_M_turn_118 (by decide) (fun c_118 => ?_) (fun c_118 => ?_)
                · skip
                  refine lv_iconst (v := (0 : Int32)) hx hb d_M_turn_125 (by decide) ?_
                  refine lv_iadd hx hb d_M_turn_126 ?_
                  refine lv_istore_n (lv' := [(2, .int (x2 + (0 : Int32))), (4, .int (f_M_leastFor μ1 (μ1.1 22 0 x3.toNatClampNeg))), (0, .ref (τ.1 20 0)), (1, .int x1), (3, .int x3)]) hx hb d_M_turn_127 rfl hl (by decide) rfl (fun ls hl => ?_)
                  refine lv_aload_n hx hb d_M_turn_128 rfl (lv_at hl 2 rfl) ?_
                  refine lv_aload_n hx hb d_M_turn_129 rfl (lv_at hl 2 rfl) ?_
                  refine gf_M_113 hx hb hts hown hT hM (lz_20 hM) d_M_turn_130 ?_
                  refine lv_iload_n hx hb d_M_turn_133 rfl (lv_at hl 4 rfl) ?_
                  refine lv_iload hx hb d_M_turn_134 (lv_at hl 1 rfl) ?_
                  refine lv_aload_n hx hb d_M_turn_136 rfl (lv_at hl 2 rfl) ?_
                  refine gf_M_116 hx hb hts hown hT hM (lz_20 hM) d_M_turn_137 ?_
                  refine q_M_124 hx hb hml hown hts hT hM (lz_20 hM) (c_M_tell l G τ m_110 (m_110.1 20 0 28) x3 (f_M_leastFor μ1 (μ1.1 22 0 x3.toNatClampNeg)) (m_110.2 20 0 29) (by rw [e_110, go_46]; exact hk.1)) ⟨Nat.le_of_ble_eq_true rfl, Nat.le_of_ble_eq_true rfl⟩ ⟨Nat.zero_le _, Nat.zero_le _⟩ (lv_room (Nat.le_of_ble_eq_true rfl)) hl.1 d_M_turn_140 (fun H locs hM => ?_)
                  obtain ⟨m_140, e_140⟩ : ∃ z : mMem, z = (f_M_tell m_110 (m_110.1 20 0 28) x3 (f_M_leastFor μ1 (μ1.1 22 0 x3.toNatClampNeg)) (m_110.2 20 0 29)) := ⟨_, rfl⟩
                  rw [← e_140] at hM
                  have hJ : iM m_140 := by rw [e_140]; exact iM_M_tell hJ
                  refine lv_iinc (v := x3 + (1 : Int32)) (lv' := [(3, .int (x3 + (1 : Int32))), (2, .int (x2 + (0 : Int32))), (4, .int (f_M_leastFor μ1 (μ1.1 22 0 x3.toNatClampNeg))), (0, .ref (τ.1 20 0)), (1, .int x1)]) hx hb d_M_turn_143 hl (k := 4) rfl rfl (by decide) rfl (fun ls hl => ?_)
                  refine lv_goto (tgt := 38) hx hb d_M_turn_146 (by decide) ?_
                  have e_f : f_M_turn_l38 (n + 1) x1 x2 x3 μ1 = f_M_turn_l38 n x1 (x2 + (0 : Int32)) (x3 + (1 : Int32)) m_140 := by
                    subst e_140 e_110
                    exact (if_neg c_43).trans ((if_neg c_53).trans ((if_pos c_63).trans ((if_pos c_73).trans ((if_neg c_94).trans ((if_neg c_118).trans rfl)))))
                  rw [e_f]
                  exact ih x1 (x2 + (0 : Int32)) (x3 + (1 : Int32)) m_140 _ _ ls  (hJ) (ht) (⟨inc_pos hp.1 c_43, le60 hJ0 c_43⟩) (by first | exact tk1 c_43 hk | (rw [e_140, e_110]; exact tk2 (Int.le_trans hp.2 (by decide)) c_43 hk)) (by first | exact inc_lt c_43 hn | (rw [e_140, tell_20, e_110, go_made]; exact inc_lt c_43 hn)) hM (lv_sub hl [3, 4, 1, 0] rfl)
                · skip
                  refine lv_iconst (v := (1 : Int32)) hx hb d_M_turn_121 (by decide) ?_
                  refine lv_goto (tgt := 126) hx hb d_M_turn_122 (by decide) ?_
                  refine lv_iadd hx hb d_M_turn_126 ?_
                  refine lv_istore_n (lv' := [(2, .int (x2 + (1 : Int32))), (4, .int (f_M_leastFor μ1 (μ1.1 22 0 x3.toNatClampNeg))), (0, .ref (τ.1 20 0)), (1, .int x1), (3, .int x3)]) hx hb d_M_turn_127 rfl hl (by decide) rfl (fun ls hl => ?_)
                  refine lv_aload_n hx hb d_M_turn_128 rfl (lv_at hl 2 rfl) ?_
                  refine lv_aload_n hx hb d_M_turn_129 rfl (lv_at hl 2 rfl) ?_
                  refine gf_M_113 hx hb hts hown hT hM (lz_20 hM) d_M_turn_130 ?_
                  refine lv_iload_n hx hb d_M_turn_133 rfl (lv_at hl 4 rfl) ?_
                  refine lv_iload hx hb d_M_turn_134 (lv_at hl 1 rfl) ?_
                  refine lv_aload_n hx hb d_M_turn_136 rfl (lv_at hl 2 rfl) ?_
                  refine gf_M_116 hx hb hts hown hT hM (lz_20 hM) d_M_turn_137 ?_
                  refine q_M_124 hx hb hml hown hts hT hM (lz_20 hM) (c_M_tell l G τ m_110 (m_110.1 20 0 28) x3 (f_M_leastFor μ1 (μ1.1 22 0 x3.toNatClampNeg)) (m_110.2 20 0 29) (by rw [e_110, go_46]; exact hk.1)) ⟨Nat.le_of_ble_eq_true rfl, Nat.le_of_ble_eq_true rfl⟩ ⟨Nat.zero_le _, Nat.zero_le _⟩ (lv_room (Nat.le_of_ble_eq_true rfl)) hl.1 d_M_turn_140 (fun H locs hM => ?_)
                  obtain ⟨m_140, e_140⟩ : ∃ z : mMem, z = (f_M_tell m_110 (m_110.1 20 0 28) x3 (f_M_leastFor μ1 (μ1.1 22 0 x3.toNatClampNeg)) (m_110.2 20 0 29)) := ⟨_, rfl⟩
                  rw [← e_140] at hM
                  have hJ : iM m_140 := by rw [e_140]; exact iM_M_tell hJ
                  refine lv_iinc (v := x3 + (1 : Int32)) (lv' := [(3, .int (x3 + (1 : Int32))), (2, .int (x2 + (1 : Int32))), (4, .int (f_M_leastFor μ1 (μ1.1 22 0 x3.toNatClampNeg))), (0, .ref (τ.1 20 0)), (1, .int x1)]) hx hb d_M_turn_143 hl (k := 4) rfl rfl (by decide) rfl (fun ls hl => ?_)
                  refine lv_goto (tgt := 38) hx hb d_M_turn_146 (by decide) ?_
                  have e_f : f_M_turn_l38 (n + 1) x1 x2 x3 μ1 = f_M_turn_l38 n x1 (x2 + (1 : Int32)) (x3 + (1 : Int32)) m_140 := by
                    subst e_140 e_110
                    exact (if_neg c_43).trans ((if_neg c_53).trans ((if_pos c_63).trans ((if_pos c_73).trans ((if_neg c_94).trans ((if_pos c_118).trans rfl)))))
                  rw [e_f]
                  exact ih x1 (x2 + (1 : Int32)) (x3 + (1 : Int32)) m_140 _ _ ls  (hJ) (ht) (⟨inc_pos hp.1 c_43, le60 hJ0 c_43⟩) (by first | exact tk1 c_43 hk | (rw [e_140, e_110]; exact tk2 (Int.le_trans hp.2 (by decide)) c_43 hk)) (by first | exact inc_lt c_43 hn | (rw [e_140, tell_20, e_110, go_made]; exact inc_lt c_43 hn)) hM (lv_sub hl [3, 4, 1, 0] rfl)
              · skip
                refine lv_goto (tgt := 143) hx hb d_M_turn_97 (by decide) ?_
                refine lv_iinc (v := x3 + (1 : Int32)) (lv' := [(3, .int (x3 + (1 : Int32))), (4, .int (f_M_leastFor μ1 (μ1.1 22 0 x3.toNatClampNeg))), (0, .ref (τ.1 20 0)), (1, .int x1), (2, .int x2)]) hx hb d_M_turn_143 hl (k := 4) rfl rfl (by decide) rfl (fun ls hl => ?_)
                refine lv_goto (tgt := 38) hx hb d_M_turn_146 (by decide) ?_
                have e_f : f_M_turn_l38 (n + 1) x1 x2 x3 μ1 = f_M_turn_l38 n x1 x2 (x3 + (1 : Int32)) μ1 := by
                  exact (if_neg c_43).trans ((if_neg c_53).trans ((if_pos c_63).trans ((if_pos c_73).trans ((if_pos c_94).trans rfl))))
                rw [e_f]
                exact ih x1 x2 (x3 + (1 : Int32)) μ1 _ _ ls  (hJ) (ht) (⟨inc_pos hp.1 c_43, le60 hJ0 c_43⟩) (by first | exact tk1 c_43 hk | (rw [e_140, e_110]; exact tk2 (Int.le_trans hp.2 (by decide)) c_43 hk)) (by first | exact inc_lt c_43 hn | (rw [e_140, tell_20, e_110, go_made]; exact inc_lt c_43 hn)) hM (lv_sub hl [2, 3, 4, 0] rfl)
            · skip
              refine lv_goto (tgt := 143) hx hb d_M_turn_76 (by decide) ?_
              refine lv_iinc (v := x3 + (1 : Int32)) (lv' := [(3, .int (x3 + (1 : Int32))), (0, .ref (τ.1 20 0)), (1, .int x1), (2, .int x2)]) hx hb d_M_turn_143 hl (k := 3) rfl rfl (by decide) rfl (fun ls hl => ?_)
              refine lv_goto (tgt := 38) hx hb d_M_turn_146 (by decide) ?_
              have e_f : f_M_turn_l38 (n + 1) x1 x2 x3 μ1 = f_M_turn_l38 n x1 x2 (x3 + (1 : Int32)) μ1 := by
                exact (if_neg c_43).trans ((if_neg c_53).trans ((if_pos c_63).trans ((if_neg c_73).trans rfl)))
              rw [e_f]
              exact ih x1 x2 (x3 + (1 : Int32)) μ1 _ _ ls  (hJ) (ht) (⟨inc_pos hp.1 c_43, le60 hJ0 c_43⟩) (by first | exact tk1 c_43 hk | (rw [e_140, e_110]; exact tk2 (Int.le_trans hp.2 (by decide)) c_43 hk)) (by first | exact inc_lt c_43 hn | (rw [e_140, tell_20, e_110, go_made]; exact inc_lt c_43 hn)) hM (lv_sub hl [1, 2, 3, 0] rfl)
  have hl := lv_entry ([.ref (τ.1 20 0), .int a1]) (n := 5) (Nat.le_of_ble_eq_true rfl)
  rw [lg_entry_eq]
  skip
  generalize (lg_sl ([.ref (τ.1 20 0), .int a1]) ++ List.replicate (5 - (lg_sl ([.ref (τ.1 20 0), .int a1])).length) Slot.unset).toArray = ls at hl ⊢
  have hl : lv_has ls 5 [(0, .ref (τ.1 20 0)), (1, .int a1)] := hl
  refine lv_aload_n hx hb d_M_turn_0 rfl (lv_at hl 0 rfl) ?_
  refine lv_iconst (v := (0 : Int32)) hx hb d_M_turn_1 (by decide) ?_
  refine pf_M_90 hx hb hts hown hT hM (lz_20 hM) d_M_turn_2 (fun m_2 H locs e_2 hM => ?_)
  have hJ : iM m_2 := by rw [e_2]; exact iM_I hJ rfl
  refine lv_aload_n hx hb d_M_turn_5 rfl (lv_at hl 0 rfl) ?_
  refine lv_iload_n hx hb d_M_turn_6 rfl (lv_at hl 1 rfl) ?_
  refine q_M_140 hx hb hml hown hts hT hM (lz_20 hM) (c_M_isHouse l G τ m_2 a1 (hJ)) ⟨Nat.le_of_ble_eq_true rfl, Nat.le_of_ble_eq_true rfl⟩ ⟨Nat.zero_le _, Nat.zero_le _⟩ (lv_room (Nat.le_of_ble_eq_true rfl)) hl.1 d_M_turn_7 (fun H locs hM => ?_)
  refine lv_if_eq (tgt := 22) hx hb d_M_turn_10 (by decide) (fun c_10 => ?_) (fun c_10 => ?_)
  · skip
    refine lv_iconst (v := (-1 : Int32)) hx hb d_M_turn_22 (by decide) ?_
    have e_f : f_M_turn μ a1 = ((-1 : Int32), m_2) := by
      subst e_2
      exact (if_pos c_10).trans rfl
    rw [e_f]
    exact W.iret (v := (-1 : Int32)) hx hb hr (fun t ht hW => ⟨rfl, hM.end ht⟩) hM.2.2.1 d_M_turn_23
  · skip
    have ht := mh_in hJ c_10
    refine lv_aload_n hx hb d_M_turn_13 rfl (lv_at hl 0 rfl) ?_
    refine gf_M_19 hx hb hts hown hT hM (lz_20 hM) d_M_turn_14 ?_
    refine lv_iload_n hx hb d_M_turn_17 rfl (lv_at hl 1 rfl) ?_
    refine al_25 hx hb hT hM (lz_25 hM) (by first | assumption | exact vin 60 (b := 60) (by decide) (by assumption) (by assumption)) d_M_turn_18 ?_
    refine lv_if_ne (tgt := 24) hx hb d_M_turn_19 (by decide) (fun c_19 => ?_) (fun c_19 => ?_)
    · skip
      refine lv_aload_n hx hb d_M_turn_24 rfl (lv_at hl 0 rfl) ?_
      refine gf_M_22 hx hb hts hown hT hM (lz_20 hM) d_M_turn_25 ?_
      refine lv_iload_n hx hb d_M_turn_28 rfl (lv_at hl 1 rfl) ?_
      refine lv_dup2_11 hx hb d_M_turn_29 rfl rfl ?_
      refine al_26 hx hb hT hM (lz_26 hM) (by first | assumption | exact vin 60 (b := 60) (by decide) (by assumption) (by assumption)) d_M_turn_30 ?_
      refine lv_iconst (v := (1 : Int32)) hx hb d_M_turn_31 (by decide) ?_
      refine lv_iadd hx hb d_M_turn_32 ?_
      refine as_26 hx hb hT hM (lz_26 hM) (by first | assumption | exact vin 60 (b := 60) (by decide) (by assumption) (by assumption)) d_M_turn_33 (fun m_33 H locs e_33 hM => ?_)
      have hJ : iM m_33 := by rw [e_33]; exact iM_I hJ rfl
      refine lv_iconst (v := (0 : Int32)) hx hb d_M_turn_34 (by decide) ?_
      refine lv_istore_n (lv' := [(2, .int (0 : Int32)), (0, .ref (τ.1 20 0)), (1, .int a1)]) hx hb d_M_turn_35 rfl hl (by decide) rfl (fun ls hl => ?_)
      refine lv_iconst (v := (0 : Int32)) hx hb d_M_turn_36 (by decide) ?_
      refine lv_istore_n (lv' := [(3, .int (0 : Int32)), (2, .int (0 : Int32)), (0, .ref (τ.1 20 0)), (1, .int a1)]) hx hb d_M_turn_37 rfl hl (by decide) rfl (fun ls hl => ?_)
      have e_f : f_M_turn μ a1 = f_M_turn_l38 64 a1 (0 : Int32) (0 : Int32) m_33 := by
        subst e_33 e_2
        exact (if_neg c_10).trans ((if_neg c_19).trans rfl)
      rw [e_f]
      exact loop_38 64 a1 (0 : Int32) (0 : Int32) m_33 _ _ ls  (hJ) (ht) (⟨by decide, by decide⟩) (tk0 (by rw [e_33, e_2]; exact hk)) (fuel_madeM hJ (by decide)) hM (lv_sub hl [2, 3, 1, 0] rfl)
    · skip
      refine lv_iconst (v := (-1 : Int32)) hx hb d_M_turn_22 (by decide) ?_
      have e_f : f_M_turn μ a1 = ((-1 : Int32), m_2) := by
        subst e_2
        exact (if_neg c_10).trans ((if_pos c_19).trans rfl)
      rw [e_f]
      exact W.iret (v := (-1 : Int32)) hx hb hr (fun t ht hW => ⟨rfl, hM.end ht⟩) hM.2.2.1 d_M_turn_23
set_option maxHeartbeats 4000000 in
set_option maxRecDepth 100000 in
theorem c_M_building (l : Launch) (G : mG) (τ : mTau) (μ : mMem) (a1 : Int32) (a2 : Int32) (hJ : iM μ) : Met l y_M_building w_M_building r_M_building (mPc G τ μ [.ref (τ.1 20 0), .int a1, .int a2]) (mQ G τ (some (.int (f_M_building μ a1 a2).1)) (f_M_building μ a1 a2).2) 0 0 (fun q => G.2.2.1 ≤ q) := by
  refine Met.ofW (cc := b_M_building) (maxL := 3) (ret := (some .int)) (by decide) rfl ?_
  intro p e s m args below meth c s₁ B hml hv
  obtain ⟨rfl, hT, hM⟩ := hv
  have hx := B.exec
  have hb := B.bytes
  have hr := B.returns
  have hts : ∀ w ∈ gG, w.before _ s = true := fun w h => atoms_spec (ws := w_M_building) B.pre w (List.mem_cons_of_mem _ h)
  have hown : s.vm.findClass R_M = some m.cls := findClass_of_methodNamed B.named
  have hlocks := B.notSynchronized
  have hl := lv_entry ([.ref (τ.1 20 0), .int a1, .int a2]) (n := 3) (Nat.le_of_ble_eq_true rfl)
  rw [lg_entry_eq]
  skip
  generalize (lg_sl ([.ref (τ.1 20 0), .int a1, .int a2]) ++ List.replicate (3 - (lg_sl ([.ref (τ.1 20 0), .int a1, .int a2])).length) Slot.unset).toArray = ls at hl ⊢
  have hl : lv_has ls 3 [(0, .ref (τ.1 20 0)), (1, .int a1), (2, .int a2)] := hl
  refine lv_aload_n hx hb d_M_building_0 rfl (lv_at hl 0 rfl) ?_
  refine lv_iconst (v := (0 : Int32)) hx hb d_M_building_1 (by decide) ?_
  refine pf_M_90 hx hb hts hown hT hM (lz_20 hM) d_M_building_2 (fun m_2 H locs e_2 hM => ?_)
  have hJ : iM m_2 := by rw [e_2]; exact iM_I hJ rfl
  refine lv_aload_n hx hb d_M_building_5 rfl (lv_at hl 0 rfl) ?_
  refine lv_iload_n hx hb d_M_building_6 rfl (lv_at hl 1 rfl) ?_
  refine q_M_140 hx hb hml hown hts hT hM (lz_20 hM) (c_M_isHouse l G τ m_2 a1 (hJ)) ⟨Nat.le_of_ble_eq_true rfl, Nat.le_of_ble_eq_true rfl⟩ ⟨Nat.zero_le _, Nat.zero_le _⟩ (lv_room (Nat.le_of_ble_eq_true rfl)) hl.1 d_M_building_7 (fun H locs hM => ?_)
  refine lv_if_ne (tgt := 17) hx hb d_M_building_10 (by decide) (fun c_10 => ?_) (fun c_10 => ?_)
  · skip
    have ht := mh_in hJ c_10
    refine lv_iload_n hx hb d_M_building_17 rfl (lv_at hl 2 rfl) ?_
    refine lv_if_ne (tgt := 30) hx hb d_M_building_18 (by decide) (fun c_18 => ?_) (fun c_18 => ?_)
    · skip
      refine lv_iload_n hx hb d_M_building_30 rfl (lv_at hl 2 rfl) ?_
      refine lv_iconst (v := (1 : Int32)) hx hb d_M_building_31 (by decide) ?_
      refine lv_icmp_ne (tgt := 44) hx hb d_M_building_32 (by decide) (fun c_32 => ?_) (fun c_32 => ?_)
      · skip
        refine lv_iconst (v := (-1 : Int32)) hx hb d_M_building_44 (by decide) ?_
        have e_f : f_M_building μ a1 a2 = ((-1 : Int32), m_2) := by
          subst e_2
          exact (if_neg c_10).trans ((if_neg c_18).trans ((if_neg c_32).trans rfl))
        rw [e_f]
        exact W.iret (v := (-1 : Int32)) hx hb hr (fun t ht hW => ⟨rfl, hM.end ht⟩) hM.2.2.1 d_M_building_45
      · skip
        refine lv_aload_n hx hb d_M_building_35 rfl (lv_at hl 0 rfl) ?_
        refine gf_M_25 hx hb hts hown hT hM (lz_20 hM) d_M_building_36 ?_
        refine lv_iload_n hx hb d_M_building_39 rfl (lv_at hl 1 rfl) ?_
        refine al_27 hx hb hT hM (lz_27 hM) (by first | assumption | exact vin 60 (b := 60) (by decide) (by assumption) (by assumption)) d_M_building_40 ?_
        refine lv_goto (tgt := 45) hx hb d_M_building_41 (by decide) ?_
        have e_f : f_M_building μ a1 a2 = (m_2.1 27 0 a1.toNatClampNeg, m_2) := by
          subst e_2
          exact (if_neg c_10).trans ((if_neg c_18).trans ((if_pos c_32).trans rfl))
        rw [e_f]
        exact W.iret (v := m_2.1 27 0 a1.toNatClampNeg) hx hb hr (fun t ht hW => ⟨rfl, hM.end ht⟩) hM.2.2.1 d_M_building_45
    · skip
      refine lv_aload_n hx hb d_M_building_21 rfl (lv_at hl 0 rfl) ?_
      refine gf_M_19 hx hb hts hown hT hM (lz_20 hM) d_M_building_22 ?_
      refine lv_iload_n hx hb d_M_building_25 rfl (lv_at hl 1 rfl) ?_
      refine al_25 hx hb hT hM (lz_25 hM) (by first | assumption | exact vin 60 (b := 60) (by decide) (by assumption) (by assumption)) d_M_building_26 ?_
      refine lv_goto (tgt := 45) hx hb d_M_building_27 (by decide) ?_
      have e_f : f_M_building μ a1 a2 = (m_2.1 25 0 a1.toNatClampNeg, m_2) := by
        subst e_2
        exact (if_neg c_10).trans ((if_pos c_18).trans rfl)
      rw [e_f]
      exact W.iret (v := m_2.1 25 0 a1.toNatClampNeg) hx hb hr (fun t ht hW => ⟨rfl, hM.end ht⟩) hM.2.2.1 d_M_building_45
  · skip
    refine lv_iconst (v := (-1 : Int32)) hx hb d_M_building_13 (by decide) ?_
    refine lv_goto (tgt := 45) hx hb d_M_building_14 (by decide) ?_
    have e_f : f_M_building μ a1 a2 = ((-1 : Int32), m_2) := by
      subst e_2
      exact (if_pos c_10).trans rfl
    rw [e_f]
    exact W.iret (v := (-1 : Int32)) hx hb hr (fun t ht hW => ⟨rfl, hM.end ht⟩) hM.2.2.1 d_M_building_45
set_option maxHeartbeats 4000000 in
set_option maxRecDepth 100000 in
theorem c_M_isTold (l : Launch) (G : mG) (τ : mTau) (μ : mMem) (a1 : Int32) : Met l y_M_isTold w_M_isTold r_M_isTold (mPc G τ μ [.ref (τ.1 20 0), .int a1]) (mQ G τ (some (.int (f_M_isTold μ a1))) μ) 0 0 (fun q => G.2.2.1 ≤ q) := by
  refine Met.ofW (cc := b_M_isTold) (maxL := 2) (ret := (some .boolean)) (by decide) rfl ?_
  intro p e s m args below meth c s₁ B hml hv
  obtain ⟨rfl, hT, hM⟩ := hv
  have hx := B.exec
  have hb := B.bytes
  have hr := B.returns
  have hts : ∀ w ∈ gG, w.before _ s = true := fun w h => atoms_spec (ws := w_M_isTold) B.pre w (List.mem_cons_of_mem _ h)
  have hown : s.vm.findClass R_M = some m.cls := findClass_of_methodNamed B.named
  have hlocks := B.notSynchronized
  have hl := lv_entry ([.ref (τ.1 20 0), .int a1]) (n := 2) (Nat.le_of_ble_eq_true rfl)
  rw [lg_entry_eq]
  skip
  generalize (lg_sl ([.ref (τ.1 20 0), .int a1]) ++ List.replicate (2 - (lg_sl ([.ref (τ.1 20 0), .int a1])).length) Slot.unset).toArray = ls at hl ⊢
  have hl : lv_has ls 2 [(0, .ref (τ.1 20 0)), (1, .int a1)] := hl
  refine lv_iload_n hx hb d_M_isTold_0 rfl (lv_at hl 1 rfl) ?_
  refine lv_if_lt (tgt := 24) hx hb d_M_isTold_1 (by decide) (fun c_1 => ?_) (fun c_1 => ?_)
  · skip
    refine lv_iconst (v := (0 : Int32)) hx hb d_M_isTold_24 (by decide) ?_
    have e_f : f_M_isTold μ a1 = (0 : Int32) := by
      exact (if_pos c_1).trans rfl
    rw [e_f]
    exact W.zret (v := (0 : Int32)) hx hb hr rfl (fun t ht hW => ⟨rfl, hM.end ht⟩) hM.2.2.1 d_M_isTold_25
  · skip
    refine lv_iload_n hx hb d_M_isTold_4 rfl (lv_at hl 1 rfl) ?_
    refine lv_bipush (v := (40 : Int32)) hx hb d_M_isTold_5 (by decide) ?_
    refine lv_icmp_ge (tgt := 24) hx hb d_M_isTold_7 (by decide) (fun c_7 => ?_) (fun c_7 => ?_)
    · skip
      refine lv_iconst (v := (0 : Int32)) hx hb d_M_isTold_24 (by decide) ?_
      have e_f : f_M_isTold μ a1 = (0 : Int32) := by
        exact (if_neg c_1).trans ((if_pos c_7).trans rfl)
      rw [e_f]
      exact W.zret (v := (0 : Int32)) hx hb hr rfl (fun t ht hW => ⟨rfl, hM.end ht⟩) hM.2.2.1 d_M_isTold_25
    · skip
      refine lv_iload_n hx hb d_M_isTold_10 rfl (lv_at hl 1 rfl) ?_
      refine lv_aload_n hx hb d_M_isTold_11 rfl (lv_at hl 0 rfl) ?_
      refine gf_M_84 hx hb hts hown hT hM (lz_20 hM) d_M_isTold_12 ?_
      refine lv_iconst (v := (0 : Int32)) hx hb d_M_isTold_15 (by decide) ?_
      refine al_46 hx hb hT hM (lz_46 hM) (vp_in_iff.mpr (by decide)) d_M_isTold_16 ?_
      refine lv_icmp_ge (tgt := 24) hx hb d_M_isTold_17 (by decide) (fun c_17 => ?_) (fun c_17 => ?_)
      · skip
        refine lv_iconst (v := (0 : Int32)) hx hb d_M_isTold_24 (by decide) ?_
        have e_f : f_M_isTold μ a1 = (0 : Int32) := by
          exact (if_neg c_1).trans ((if_neg c_7).trans ((if_pos c_17).trans rfl))
        rw [e_f]
        exact W.zret (v := (0 : Int32)) hx hb hr rfl (fun t ht hW => ⟨rfl, hM.end ht⟩) hM.2.2.1 d_M_isTold_25
      · skip
        refine lv_iconst (v := (1 : Int32)) hx hb d_M_isTold_20 (by decide) ?_
        refine lv_goto (tgt := 25) hx hb d_M_isTold_21 (by decide) ?_
        have e_f : f_M_isTold μ a1 = (1 : Int32) := by
          exact (if_neg c_1).trans ((if_neg c_7).trans ((if_neg c_17).trans rfl))
        rw [e_f]
        exact W.zret (v := (1 : Int32)) hx hb hr rfl (fun t ht hW => ⟨rfl, hM.end ht⟩) hM.2.2.1 d_M_isTold_25
set_option maxHeartbeats 4000000 in
set_option maxRecDepth 100000 in
theorem c_M_placeOf (l : Launch) (G : mG) (τ : mTau) (μ : mMem) (a1 : Int32) : Met l y_M_placeOf w_M_placeOf r_M_placeOf (mPc G τ μ [.ref (τ.1 20 0), .int a1]) (mQ G τ (some (.int (f_M_placeOf μ a1))) μ) 0 0 (fun q => G.2.2.1 ≤ q) := by
  refine Met.ofW (cc := b_M_placeOf) (maxL := 2) (ret := (some .int)) (by decide) rfl ?_
  intro p e s m args below meth c s₁ B hml hv
  obtain ⟨rfl, hT, hM⟩ := hv
  have hx := B.exec
  have hb := B.bytes
  have hr := B.returns
  have hts : ∀ w ∈ gG, w.before _ s = true := fun w h => atoms_spec (ws := w_M_placeOf) B.pre w (List.mem_cons_of_mem _ h)
  have hown : s.vm.findClass R_M = some m.cls := findClass_of_methodNamed B.named
  have hlocks := B.notSynchronized
  have hl := lv_entry ([.ref (τ.1 20 0), .int a1]) (n := 2) (Nat.le_of_ble_eq_true rfl)
  rw [lg_entry_eq]
  skip
  generalize (lg_sl ([.ref (τ.1 20 0), .int a1]) ++ List.replicate (2 - (lg_sl ([.ref (τ.1 20 0), .int a1])).length) Slot.unset).toArray = ls at hl ⊢
  have hl : lv_has ls 2 [(0, .ref (τ.1 20 0)), (1, .int a1)] := hl
  refine lv_aload_n hx hb d_M_placeOf_0 rfl (lv_at hl 0 rfl) ?_
  refine gf_M_84 hx hb hts hown hT hM (lz_20 hM) d_M_placeOf_1 ?_
  refine lv_iconst (v := (0 : Int32)) hx hb d_M_placeOf_4 (by decide) ?_
  refine al_46 hx hb hT hM (lz_46 hM) (vp_in_iff.mpr (by decide)) d_M_placeOf_5 ?_
  refine lv_iconst (v := (1 : Int32)) hx hb d_M_placeOf_6 (by decide) ?_
  refine lv_isub hx hb d_M_placeOf_7 ?_
  refine lv_iload_n hx hb d_M_placeOf_8 rfl (lv_at hl 1 rfl) ?_
  refine lv_isub hx hb d_M_placeOf_9 ?_
  refine lv_bipush (v := (40 : Int32)) hx hb d_M_placeOf_10 (by decide) ?_
  refine lv_irem hx hb d_M_placeOf_12 (by decide) ?_
  have e_f : f_M_placeOf μ a1 = (((μ.1 46 0 (0 : Int32).toNatClampNeg) - (1 : Int32)) - a1) - (((μ.1 46 0 (0 : Int32).toNatClampNeg) - (1 : Int32)) - a1) / (40 : Int32) * (40 : Int32) := by
    exact rfl
  rw [e_f]
  exact W.iret (v := (((μ.1 46 0 (0 : Int32).toNatClampNeg) - (1 : Int32)) - a1) - (((μ.1 46 0 (0 : Int32).toNatClampNeg) - (1 : Int32)) - a1) / (40 : Int32) * (40 : Int32)) hx hb hr (fun t ht hW => ⟨rfl, hM.end ht⟩) hM.2.2.1 d_M_placeOf_13
set_option maxHeartbeats 4000000 in
set_option maxRecDepth 100000 in
theorem c_M_told (l : Launch) (G : mG) (τ : mTau) (μ : mMem) (a1 : Int32) (a2 : Int32) (hk : 0 ≤ (μ.1 46 0 0).toInt) : Met l y_M_told w_M_told r_M_told (mPc G τ μ [.ref (τ.1 20 0), .int a1, .int a2]) (mQ G τ (some (.int (f_M_told μ a1 a2).1)) (f_M_told μ a1 a2).2) 0 0 (fun q => G.2.2.1 ≤ q) := by
  refine Met.ofW (cc := b_M_told) (maxL := 4) (ret := (some .int)) (by decide) rfl ?_
  intro p e s m args below meth c s₁ B hml hv
  obtain ⟨rfl, hT, hM⟩ := hv
  have hx := B.exec
  have hb := B.bytes
  have hr := B.returns
  have hts : ∀ w ∈ gG, w.before _ s = true := fun w h => atoms_spec (ws := w_M_told) B.pre w (List.mem_cons_of_mem _ h)
  have hown : s.vm.findClass R_M = some m.cls := findClass_of_methodNamed B.named
  have hlocks := B.notSynchronized
  have hl := lv_entry ([.ref (τ.1 20 0), .int a1, .int a2]) (n := 4) (Nat.le_of_ble_eq_true rfl)
  rw [lg_entry_eq]
  skip
  generalize (lg_sl ([.ref (τ.1 20 0), .int a1, .int a2]) ++ List.replicate (4 - (lg_sl ([.ref (τ.1 20 0), .int a1, .int a2])).length) Slot.unset).toArray = ls at hl ⊢
  have hl : lv_has ls 4 [(0, .ref (τ.1 20 0)), (1, .int a1), (2, .int a2)] := hl
  refine lv_aload_n hx hb d_M_told_0 rfl (lv_at hl 0 rfl) ?_
  refine lv_iconst (v := (0 : Int32)) hx hb d_M_told_1 (by decide) ?_
  refine pf_M_90 hx hb hts hown hT hM (lz_20 hM) d_M_told_2 (fun m_2 H locs e_2 hM => ?_)
  refine lv_aload_n hx hb d_M_told_5 rfl (lv_at hl 0 rfl) ?_
  refine lv_iload_n hx hb d_M_told_6 rfl (lv_at hl 1 rfl) ?_
  refine q_M_146 hx hb hml hown hts hT hM (lz_20 hM) (c_M_isTold l G τ m_2 a1) ⟨Nat.le_of_ble_eq_true rfl, Nat.le_of_ble_eq_true rfl⟩ ⟨Nat.zero_le _, Nat.zero_le _⟩ (lv_room (Nat.le_of_ble_eq_true rfl)) hl.1 d_M_told_7 (fun H locs hM => ?_)
  refine lv_if_ne (tgt := 15) hx hb d_M_told_10 (by decide) (fun c_10 => ?_) (fun c_10 => ?_)
  · skip
    have hs := place_in (by rw [e_2]; exact hk) c_10
    refine lv_aload_n hx hb d_M_told_15 rfl (lv_at hl 0 rfl) ?_
    refine lv_iload_n hx hb d_M_told_16 rfl (lv_at hl 1 rfl) ?_
    refine q_M_149 hx hb hml hown hts hT hM (lz_20 hM) (c_M_placeOf l G τ m_2 a1) ⟨Nat.le_of_ble_eq_true rfl, Nat.le_of_ble_eq_true rfl⟩ ⟨Nat.zero_le _, Nat.zero_le _⟩ (lv_room (Nat.le_of_ble_eq_true rfl)) hl.1 d_M_told_17 (fun H locs hM => ?_)
    refine lv_istore_n (lv' := [(3, .int (f_M_placeOf m_2 a1)), (0, .ref (τ.1 20 0)), (1, .int a1), (2, .int a2)]) hx hb d_M_told_20 rfl hl (by decide) rfl (fun ls hl => ?_)
    refine lv_iload_n hx hb d_M_told_21 rfl (lv_at hl 3 rfl) ?_
    refine lv_if_ne (tgt := 34) hx hb d_M_told_22 (by decide) (fun c_22 => ?_) (fun c_22 => ?_)
    · skip
      refine lv_iload_n hx hb d_M_told_34 rfl (lv_at hl 3 rfl) ?_
      refine lv_iconst (v := (1 : Int32)) hx hb d_M_told_35 (by decide) ?_
      refine lv_icmp_ne (tgt := 48) hx hb d_M_told_36 (by decide) (fun c_36 => ?_) (fun c_36 => ?_)
      · skip
        refine lv_iload_n hx hb d_M_told_48 rfl (lv_at hl 3 rfl) ?_
        refine lv_iconst (v := (2 : Int32)) hx hb d_M_told_49 (by decide) ?_
        refine lv_icmp_ne (tgt := 62) hx hb d_M_told_50 (by decide) (fun c_50 => ?_) (fun c_50 => ?_)
        · skip
          refine lv_iconst (v := (-1 : Int32)) hx hb d_M_told_62 (by decide) ?_
          have e_f : f_M_told μ a1 a2 = ((-1 : Int32), m_2) := by
            subst e_2
            exact (if_neg c_10).trans ((if_neg c_22).trans ((if_neg c_36).trans ((if_neg c_50).trans rfl)))
          rw [e_f]
          exact W.iret (v := (-1 : Int32)) hx hb hr (fun t ht hW => ⟨rfl, hM.end ht⟩) hM.2.2.1 d_M_told_63
        · skip
          refine lv_aload_n hx hb d_M_told_53 rfl (lv_at hl 1 rfl) ?_
          refine gf_M_81 hx hb hts hown hT hM (lz_20 hM) d_M_told_54 ?_
          refine lv_iload_n hx hb d_M_told_57 rfl (lv_at hl 0 rfl) ?_
          refine al_45 hx hb hT hM (lz_45 hM) (hs) d_M_told_58 ?_
          refine lv_goto (tgt := 63) hx hb d_M_told_59 (by decide) ?_
          have e_f : f_M_told μ a1 a2 = (m_2.1 45 0 (f_M_placeOf m_2 a1).toNatClampNeg, m_2) := by
            subst e_2
            exact (if_neg c_10).trans ((if_neg c_22).trans ((if_neg c_36).trans ((if_pos c_50).trans rfl)))
          rw [e_f]
          exact W.iret (v := m_2.1 45 0 (f_M_placeOf m_2 a1).toNatClampNeg) hx hb hr (fun t ht hW => ⟨rfl, hM.end ht⟩) hM.2.2.1 d_M_told_63
      · skip
        refine lv_aload_n hx hb d_M_told_39 rfl (lv_at hl 1 rfl) ?_
        refine gf_M_78 hx hb hts hown hT hM (lz_20 hM) d_M_told_40 ?_
        refine lv_iload_n hx hb d_M_told_43 rfl (lv_at hl 0 rfl) ?_
        refine al_44 hx hb hT hM (lz_44 hM) (hs) d_M_told_44 ?_
        refine lv_goto (tgt := 63) hx hb d_M_told_45 (by decide) ?_
        have e_f : f_M_told μ a1 a2 = (m_2.1 44 0 (f_M_placeOf m_2 a1).toNatClampNeg, m_2) := by
          subst e_2
          exact (if_neg c_10).trans ((if_neg c_22).trans ((if_pos c_36).trans rfl))
        rw [e_f]
        exact W.iret (v := m_2.1 44 0 (f_M_placeOf m_2 a1).toNatClampNeg) hx hb hr (fun t ht hW => ⟨rfl, hM.end ht⟩) hM.2.2.1 d_M_told_63
    · skip
      refine lv_aload_n hx hb d_M_told_25 rfl (lv_at hl 1 rfl) ?_
      refine gf_M_75 hx hb hts hown hT hM (lz_20 hM) d_M_told_26 ?_
      refine lv_iload_n hx hb d_M_told_29 rfl (lv_at hl 0 rfl) ?_
      refine al_43 hx hb hT hM (lz_43 hM) (hs) d_M_told_30 ?_
      refine lv_goto (tgt := 63) hx hb d_M_told_31 (by decide) ?_
      have e_f : f_M_told μ a1 a2 = (m_2.1 43 0 (f_M_placeOf m_2 a1).toNatClampNeg, m_2) := by
        subst e_2
        exact (if_neg c_10).trans ((if_pos c_22).trans rfl)
      rw [e_f]
      exact W.iret (v := m_2.1 43 0 (f_M_placeOf m_2 a1).toNatClampNeg) hx hb hr (fun t ht hW => ⟨rfl, hM.end ht⟩) hM.2.2.1 d_M_told_63
  · skip
    refine lv_iconst (v := (-1 : Int32)) hx hb d_M_told_13 (by decide) ?_
    have e_f : f_M_told μ a1 a2 = ((-1 : Int32), m_2) := by
      subst e_2
      exact (if_pos c_10).trans rfl
    rw [e_f]
    exact W.iret (v := (-1 : Int32)) hx hb hr (fun t ht hW => ⟨rfl, hM.end ht⟩) hM.2.2.1 d_M_told_14
set_option maxHeartbeats 4000000 in
set_option maxRecDepth 100000 in
theorem c_M_value (l : Launch) (G : mG) (τ : mTau) (μ : mMem) (a1 : Int32) (hk : 0 ≤ (μ.1 46 0 0).toInt) : Met l y_M_value w_M_value r_M_value (mPc G τ μ [.ref (τ.1 20 0), .int a1]) (mQ G τ (some (.long (f_M_value μ a1).1)) (f_M_value μ a1).2) 0 0 (fun q => G.2.2.1 ≤ q) := by
  refine Met.ofW (cc := b_M_value) (maxL := 2) (ret := (some .long)) (by decide) rfl ?_
  intro p e s m args below meth c s₁ B hml hv
  obtain ⟨rfl, hT, hM⟩ := hv
  have hx := B.exec
  have hb := B.bytes
  have hr := B.returns
  have hts : ∀ w ∈ gG, w.before _ s = true := fun w h => atoms_spec (ws := w_M_value) B.pre w (List.mem_cons_of_mem _ h)
  have hown : s.vm.findClass R_M = some m.cls := findClass_of_methodNamed B.named
  have hlocks := B.notSynchronized
  have hl := lv_entry ([.ref (τ.1 20 0), .int a1]) (n := 2) (Nat.le_of_ble_eq_true rfl)
  rw [lg_entry_eq]
  skip
  generalize (lg_sl ([.ref (τ.1 20 0), .int a1]) ++ List.replicate (2 - (lg_sl ([.ref (τ.1 20 0), .int a1])).length) Slot.unset).toArray = ls at hl ⊢
  have hl : lv_has ls 2 [(0, .ref (τ.1 20 0)), (1, .int a1)] := hl
  refine lv_aload_n hx hb d_M_value_0 rfl (lv_at hl 0 rfl) ?_
  refine lv_iconst (v := (0 : Int32)) hx hb d_M_value_1 (by decide) ?_
  refine pf_M_90 hx hb hts hown hT hM (lz_20 hM) d_M_value_2 (fun m_2 H locs e_2 hM => ?_)
  refine lv_aload_n hx hb d_M_value_5 rfl (lv_at hl 0 rfl) ?_
  refine lv_iload_n hx hb d_M_value_6 rfl (lv_at hl 1 rfl) ?_
  refine q_M_146 hx hb hml hown hts hT hM (lz_20 hM) (c_M_isTold l G τ m_2 a1) ⟨Nat.le_of_ble_eq_true rfl, Nat.le_of_ble_eq_true rfl⟩ ⟨Nat.zero_le _, Nat.zero_le _⟩ (lv_room (Nat.le_of_ble_eq_true rfl)) hl.1 d_M_value_7 (fun H locs hM => ?_)
  refine lv_if_eq (tgt := 26) hx hb d_M_value_10 (by decide) (fun c_10 => ?_) (fun c_10 => ?_)
  · skip
    refine lv_lconst (v := (0 : Int64)) hx hb d_M_value_26 (by decide) ?_
    have e_f : f_M_value μ a1 = ((0 : Int64), m_2) := by
      subst e_2
      exact (if_pos c_10).trans rfl
    rw [e_f]
    exact W.lret (v := (0 : Int64)) hx hb hr (fun t ht hW => ⟨rfl, hM.end ht⟩) hM.2.2.1 d_M_value_27
  · skip
    have hs := place_in (by rw [e_2]; exact hk) c_10
    refine lv_aload_n hx hb d_M_value_13 rfl (lv_at hl 0 rfl) ?_
    refine gf_M_87 hx hb hts hown hT hM (lz_20 hM) d_M_value_14 ?_
    refine lv_aload_n hx hb d_M_value_17 rfl (lv_at hl 0 rfl) ?_
    refine lv_iload_n hx hb d_M_value_18 rfl (lv_at hl 1 rfl) ?_
    refine q_M_149 hx hb hml hown hts hT hM (lz_20 hM) (c_M_placeOf l G τ m_2 a1) ⟨Nat.le_of_ble_eq_true rfl, Nat.le_of_ble_eq_true rfl⟩ ⟨Nat.zero_le _, Nat.zero_le _⟩ (lv_room (Nat.le_of_ble_eq_true rfl)) hl.1 d_M_value_19 (fun H locs hM => ?_)
    refine al_47 hx hb hT hM (lz_47 hM) (hs) d_M_value_22 ?_
    refine lv_goto (tgt := 27) hx hb d_M_value_23 (by decide) ?_
    have e_f : f_M_value μ a1 = (m_2.2 47 0 (f_M_placeOf m_2 a1).toNatClampNeg, m_2) := by
      subst e_2
      exact (if_neg c_10).trans rfl
    rw [e_f]
    exact W.lret (v := m_2.2 47 0 (f_M_placeOf m_2 a1).toNatClampNeg) hx hb hr (fun t ht hW => ⟨rfl, hM.end ht⟩) hM.2.2.1 d_M_value_27
set_option maxHeartbeats 4000000 in
set_option maxRecDepth 100000 in
theorem c_M_count (l : Launch) (G : mG) (τ : mTau) (μ : mMem) (a1 : Int32) : Met l y_M_count w_M_count r_M_count (mPc G τ μ [.ref (τ.1 20 0), .int a1]) (mQ G τ (some (.int (f_M_count μ a1).1)) (f_M_count μ a1).2) 0 0 (fun q => G.2.2.1 ≤ q) := by
  refine Met.ofW (cc := b_M_count) (maxL := 2) (ret := (some .int)) (by decide) rfl ?_
  intro p e s m args below meth c s₁ B hml hv
  obtain ⟨rfl, hT, hM⟩ := hv
  have hx := B.exec
  have hb := B.bytes
  have hr := B.returns
  have hts : ∀ w ∈ gG, w.before _ s = true := fun w h => atoms_spec (ws := w_M_count) B.pre w (List.mem_cons_of_mem _ h)
  have hown : s.vm.findClass R_M = some m.cls := findClass_of_methodNamed B.named
  have hlocks := B.notSynchronized
  have hl := lv_entry ([.ref (τ.1 20 0), .int a1]) (n := 2) (Nat.le_of_ble_eq_true rfl)
  rw [lg_entry_eq]
  skip
  generalize (lg_sl ([.ref (τ.1 20 0), .int a1]) ++ List.replicate (2 - (lg_sl ([.ref (τ.1 20 0), .int a1])).length) Slot.unset).toArray = ls at hl ⊢
  have hl : lv_has ls 2 [(0, .ref (τ.1 20 0)), (1, .int a1)] := hl
  refine lv_aload_n hx hb d_M_count_0 rfl (lv_at hl 0 rfl) ?_
  refine lv_iconst (v := (0 : Int32)) hx hb d_M_count_1 (by decide) ?_
  refine pf_M_90 hx hb hts hown hT hM (lz_20 hM) d_M_count_2 (fun m_2 H locs e_2 hM => ?_)
  refine lv_iload_n hx hb d_M_count_5 rfl (lv_at hl 1 rfl) ?_
  refine lv_if_lt (tgt := 14) hx hb d_M_count_6 (by decide) (fun c_6 => ?_) (fun c_6 => ?_)
  · skip
    refine lv_iconst (v := (-1 : Int32)) hx hb d_M_count_14 (by decide) ?_
    refine lv_goto (tgt := 24) hx hb d_M_count_15 (by decide) ?_
    have e_f : f_M_count μ a1 = ((-1 : Int32), m_2) := by
      subst e_2
      exact (if_pos c_6).trans rfl
    rw [e_f]
    exact W.iret (v := (-1 : Int32)) hx hb hr (fun t ht hW => ⟨rfl, hM.end ht⟩) hM.2.2.1 d_M_count_24
  · skip
    refine lv_iload_n hx hb d_M_count_9 rfl (lv_at hl 1 rfl) ?_
    refine lv_iconst (v := (4 : Int32)) hx hb d_M_count_10 (by decide) ?_
    refine lv_icmp_le (tgt := 18) hx hb d_M_count_11 (by decide) (fun c_11 => ?_) (fun c_11 => ?_)
    · skip
      have hs := in_5 c_6 c_11
      refine lv_aload_n hx hb d_M_count_18 rfl (lv_at hl 0 rfl) ?_
      refine gf_M_84 hx hb hts hown hT hM (lz_20 hM) d_M_count_19 ?_
      refine lv_iload_n hx hb d_M_count_22 rfl (lv_at hl 1 rfl) ?_
      refine al_46 hx hb hT hM (lz_46 hM) (by first | assumption | exact vin 5 (b := 5) (by decide) (by assumption) (by assumption)) d_M_count_23 ?_
      have e_f : f_M_count μ a1 = (m_2.1 46 0 a1.toNatClampNeg, m_2) := by
        subst e_2
        exact (if_neg c_6).trans ((if_pos c_11).trans rfl)
      rw [e_f]
      exact W.iret (v := m_2.1 46 0 a1.toNatClampNeg) hx hb hr (fun t ht hW => ⟨rfl, hM.end ht⟩) hM.2.2.1 d_M_count_24
    · skip
      refine lv_iconst (v := (-1 : Int32)) hx hb d_M_count_14 (by decide) ?_
      refine lv_goto (tgt := 24) hx hb d_M_count_15 (by decide) ?_
      have e_f : f_M_count μ a1 = ((-1 : Int32), m_2) := by
        subst e_2
        exact (if_neg c_6).trans ((if_neg c_11).trans rfl)
      rw [e_f]
      exact W.iret (v := (-1 : Int32)) hx hb hr (fun t ht hW => ⟨rfl, hM.end ht⟩) hM.2.2.1 d_M_count_24
