set_option maxHeartbeats 4000000 in
set_option maxRecDepth 100000 in
theorem c_X_building (l : Launch) (G : mG) (τ : mTau) (μ : mMem) (a1 : Int32) (a2 : Int32) : Met l y_X_building w_X_building r_X_building (mPc G τ μ [.ref (τ.1 0 0), .int a1, .int a2]) (mQ G τ (some (.int (f_X_building μ a1 a2))) μ) 0 0 (fun q => G.2.2.1 ≤ q) := by
  refine Met.ofW (cc := b_X_building) (maxL := 4) (ret := (some .int)) (by decide) rfl ?_
  intro p e s m args below meth c s₁ B hml hv
  obtain ⟨rfl, hT, hM⟩ := hv
  have hx := B.exec
  have hb := B.bytes
  have hr := B.returns
  have hts : ∀ w ∈ gG, w.before _ s = true := fun w h => atoms_spec (ws := w_X_building) B.pre w (List.mem_cons_of_mem _ h)
  have hown : s.vm.findClass R_X = some m.cls := findClass_of_methodNamed B.named
  have hlocks := B.notSynchronized
  have hl := lv_entry ([.ref (τ.1 0 0), .int a1, .int a2]) (n := 4) (Nat.le_of_ble_eq_true rfl)
  rw [lg_entry_eq]
  skip
  generalize (lg_sl ([.ref (τ.1 0 0), .int a1, .int a2]) ++ List.replicate (4 - (lg_sl ([.ref (τ.1 0 0), .int a1, .int a2])).length) Slot.unset).toArray = ls at hl ⊢
  have hl : lv_has ls 4 [(0, .ref (τ.1 0 0)), (1, .int a1), (2, .int a2)] := hl
  refine lv_aload_n hx hb d_X_building_0 rfl (lv_at hl 0 rfl) ?_
  refine lv_iload_n hx hb d_X_building_1 rfl (lv_at hl 1 rfl) ?_
  refine q_X_166 hx hb hml hown hts hT hM (lz_0 hM) (c_X_houseAt l G τ μ a1) ⟨Nat.le_of_ble_eq_true rfl, Nat.le_of_ble_eq_true rfl⟩ ⟨Nat.zero_le _, Nat.zero_le _⟩ (lv_room (Nat.le_of_ble_eq_true rfl)) hl.1 d_X_building_2 (fun H locs hM ho_2 => ?_) (fun H locs hM i_2 ho_2 hv_2 => ?_)
  · skip
    refine lv_astore_nN (lv' := [(3, .null), (0, .ref (τ.1 0 0)), (1, .int a1), (2, .int a2)]) hx hb d_X_building_5 rfl hl (by decide) rfl (fun ls hl => ?_)
    refine lv_aload_nN hx hb d_X_building_6 rfl (lv_at hl 0 rfl) ?_
    refine lv_ifnonnullN hx hb d_X_building_7 ?_
    refine lv_iconst (v := (-1 : Int32)) hx hb d_X_building_10 (by decide) ?_
    have e_f : f_X_building μ a1 a2 = (-1 : Int32) := by
      exact (oC_n ho_2).trans rfl
    rw [e_f]
    exact W.iret (v := (-1 : Int32)) hx hb hr (fun t ht hW => ⟨rfl, hM.end ht⟩) hM.2.2.1 d_X_building_11
  · skip
    refine lv_astore_n (lv' := [(3, .ref (τ.1 2 i_2)), (0, .ref (τ.1 0 0)), (1, .int a1), (2, .int a2)]) hx hb d_X_building_5 rfl hl (by decide) rfl (fun ls hl => ?_)
    refine lv_aload_n hx hb d_X_building_6 rfl (lv_at hl 0 rfl) ?_
    refine lv_ifnonnull (tgt := 12) hx hb d_X_building_7 (by decide) ?_
    refine lv_iload_n hx hb d_X_building_12 rfl (lv_at hl 3 rfl) ?_
    by_cases c_13_0 : a2 = (0 : Int32)
    · skip
      refine lv_lookup (tgt := 40) hx hb d_X_building_13 (by decide) (by rw [c_13_0]; try rfl) (by decide) ?_
      refine lv_aload_n hx hb d_X_building_40 rfl (lv_at hl 0 rfl) ?_
      refine gf_X_64 hx hb hts hown hT hM hv_2 d_X_building_41 ?_
      have hv_41 : τ.2 3 ((μ.1 2 i_2 2).toNatClampNeg) := lz_3 hM hv_2
      refine gf_X_189 hx hb hts hown hT hM hv_41 d_X_building_44 ?_
      have e_f : f_X_building μ a1 a2 = μ.1 3 ((μ.1 2 i_2 2).toNatClampNeg) 0 := by
        exact (oC_s ho_2).trans ((if_pos c_13_0).trans rfl)
      rw [e_f]
      exact W.iret (v := μ.1 3 ((μ.1 2 i_2 2).toNatClampNeg) 0) hx hb hr (fun t ht hW => ⟨rfl, hM.end ht⟩) hM.2.2.1 d_X_building_47
    · skip
      by_cases c_13_1 : a2 = (1 : Int32)
      · skip
        refine lv_lookup (tgt := 48) hx hb d_X_building_13 (by decide) (by rw [c_13_1]; try rfl) (by decide) ?_
        refine lv_aload_n hx hb d_X_building_48 rfl (lv_at hl 0 rfl) ?_
        refine gf_X_64 hx hb hts hown hT hM hv_2 d_X_building_49 ?_
        have hv_49 : τ.2 3 ((μ.1 2 i_2 2).toNatClampNeg) := lz_3 hM hv_2
        refine gf_X_192 hx hb hts hown hT hM hv_49 d_X_building_52 ?_
        have e_f : f_X_building μ a1 a2 = μ.1 3 ((μ.1 2 i_2 2).toNatClampNeg) 2 := by
          exact (oC_s ho_2).trans ((if_neg c_13_0).trans ((if_pos c_13_1).trans rfl))
        rw [e_f]
        exact W.iret (v := μ.1 3 ((μ.1 2 i_2 2).toNatClampNeg) 2) hx hb hr (fun t ht hW => ⟨rfl, hM.end ht⟩) hM.2.2.1 d_X_building_55
      · skip
        refine lv_lookup (tgt := 56) hx hb d_X_building_13 (by decide) (by have h0 := sw_ne 0 (by decide) c_13_0; have h1 := sw_ne 1 (by decide) c_13_1; exact lk_out h0 h1) (by decide) ?_
        refine lv_iconst (v := (-1 : Int32)) hx hb d_X_building_56 (by decide) ?_
        have e_f : f_X_building μ a1 a2 = (-1 : Int32) := by
          exact (oC_s ho_2).trans ((if_neg c_13_0).trans ((if_neg c_13_1).trans rfl))
        rw [e_f]
        exact W.iret (v := (-1 : Int32)) hx hb hr (fun t ht hW => ⟨rfl, hM.end ht⟩) hM.2.2.1 d_X_building_57
set_option maxHeartbeats 4000000 in
set_option maxRecDepth 100000 in
theorem c_O_spotOf (l : Launch) (G : mG) (τ : mTau) (μ : mMem) (a1 : Int32) : Met l y_O_spotOf w_O_spotOf r_O_spotOf (mPc G τ μ [.ref (τ.1 13 0), .int a1]) (mQ G τ (some (.int (f_O_spotOf μ a1))) μ) 0 0 (fun q => G.2.2.1 ≤ q) := by
  refine Met.ofW (cc := b_O_spotOf) (maxL := 3) (ret := (some .int)) (by decide) rfl ?_
  intro p e s m args below meth c s₁ B hml hv
  obtain ⟨rfl, hT, hM⟩ := hv
  have hx := B.exec
  have hb := B.bytes
  have hr := B.returns
  have hts : ∀ w ∈ gG, w.before _ s = true := fun w h => atoms_spec (ws := w_O_spotOf) B.pre w (List.mem_cons_of_mem _ h)
  have hown : s.vm.findClass R_O = some m.cls := findClass_of_methodNamed B.named
  have hlocks := B.notSynchronized
  have hl := lv_entry ([.ref (τ.1 13 0), .int a1]) (n := 3) (Nat.le_of_ble_eq_true rfl)
  rw [lg_entry_eq]
  skip
  generalize (lg_sl ([.ref (τ.1 13 0), .int a1]) ++ List.replicate (3 - (lg_sl ([.ref (τ.1 13 0), .int a1])).length) Slot.unset).toArray = ls at hl ⊢
  have hl : lv_has ls 3 [(0, .ref (τ.1 13 0)), (1, .int a1)] := hl
  refine lv_iload_n hx hb d_O_spotOf_0 rfl (lv_at hl 1 rfl) ?_
  refine lv_if_lt (tgt := 18) hx hb d_O_spotOf_1 (by decide) (fun c_1 => ?_) (fun c_1 => ?_)
  · skip
    refine lv_iconst (v := (-1 : Int32)) hx hb d_O_spotOf_18 (by decide) ?_
    have e_f : f_O_spotOf μ a1 = (-1 : Int32) := by
      exact (if_pos c_1).trans rfl
    rw [e_f]
    exact W.iret (v := (-1 : Int32)) hx hb hr (fun t ht hW => ⟨rfl, hM.end ht⟩) hM.2.2.1 d_O_spotOf_19
  · skip
    refine lv_iload_n hx hb d_O_spotOf_4 rfl (lv_at hl 1 rfl) ?_
    refine lv_bipush (v := (40 : Int32)) hx hb d_O_spotOf_5 (by decide) ?_
    refine lv_icmp_ge (tgt := 18) hx hb d_O_spotOf_7 (by decide) (fun c_7 => ?_) (fun c_7 => ?_)
    · skip
      refine lv_iconst (v := (-1 : Int32)) hx hb d_O_spotOf_18 (by decide) ?_
      have e_f : f_O_spotOf μ a1 = (-1 : Int32) := by
        exact (if_neg c_1).trans ((if_pos c_7).trans rfl)
      rw [e_f]
      exact W.iret (v := (-1 : Int32)) hx hb hr (fun t ht hW => ⟨rfl, hM.end ht⟩) hM.2.2.1 d_O_spotOf_19
    · skip
      refine lv_iload_n hx hb d_O_spotOf_10 rfl (lv_at hl 1 rfl) ?_
      refine lv_aload_n hx hb d_O_spotOf_11 rfl (lv_at hl 0 rfl) ?_
      refine gf_O_29 hx hb hts hown hT hM (lz_13 hM) d_O_spotOf_12 ?_
      refine lv_icmp_lt (tgt := 20) hx hb d_O_spotOf_15 (by decide) (fun c_15 => ?_) (fun c_15 => ?_)
      · skip
        refine lv_aload_n hx hb d_O_spotOf_20 rfl (lv_at hl 0 rfl) ?_
        refine gf_O_25 hx hb hts hown hT hM (lz_13 hM) d_O_spotOf_21 ?_
        refine lv_iconst (v := (1 : Int32)) hx hb d_O_spotOf_24 (by decide) ?_
        refine lv_isub hx hb d_O_spotOf_25 ?_
        refine lv_iload_n hx hb d_O_spotOf_26 rfl (lv_at hl 1 rfl) ?_
        refine lv_isub hx hb d_O_spotOf_27 ?_
        refine lv_istore_n (lv' := [(2, .int (((μ.1 13 0 4) - (1 : Int32)) - a1)), (0, .ref (τ.1 13 0)), (1, .int a1)]) hx hb d_O_spotOf_28 rfl hl (by decide) rfl (fun ls hl => ?_)
        refine lv_iload_n hx hb d_O_spotOf_29 rfl (lv_at hl 0 rfl) ?_
        refine lv_if_ge (tgt := 40) hx hb d_O_spotOf_30 (by decide) (fun c_30 => ?_) (fun c_30 => ?_)
        · skip
          refine lv_iload_n hx hb d_O_spotOf_40 rfl (lv_at hl 0 rfl) ?_
          have e_f : f_O_spotOf μ a1 = ((μ.1 13 0 4) - (1 : Int32)) - a1 := by
            exact (if_neg c_1).trans ((if_neg c_7).trans ((if_pos c_15).trans ((if_pos c_30).trans rfl)))
          rw [e_f]
          exact W.iret (v := ((μ.1 13 0 4) - (1 : Int32)) - a1) hx hb hr (fun t ht hW => ⟨rfl, hM.end ht⟩) hM.2.2.1 d_O_spotOf_41
        · skip
          refine lv_iload_n hx hb d_O_spotOf_33 rfl (lv_at hl 0 rfl) ?_
          refine lv_bipush (v := (40 : Int32)) hx hb d_O_spotOf_34 (by decide) ?_
          refine lv_iadd hx hb d_O_spotOf_36 ?_
          refine lv_goto (tgt := 41) hx hb d_O_spotOf_37 (by decide) ?_
          have e_f : f_O_spotOf μ a1 = (((μ.1 13 0 4) - (1 : Int32)) - a1) + (40 : Int32) := by
            exact (if_neg c_1).trans ((if_neg c_7).trans ((if_pos c_15).trans ((if_neg c_30).trans rfl)))
          rw [e_f]
          exact W.iret (v := (((μ.1 13 0 4) - (1 : Int32)) - a1) + (40 : Int32)) hx hb hr (fun t ht hW => ⟨rfl, hM.end ht⟩) hM.2.2.1 d_O_spotOf_41
      · skip
        refine lv_iconst (v := (-1 : Int32)) hx hb d_O_spotOf_18 (by decide) ?_
        have e_f : f_O_spotOf μ a1 = (-1 : Int32) := by
          exact (if_neg c_1).trans ((if_neg c_7).trans ((if_neg c_15).trans rfl))
        rw [e_f]
        exact W.iret (v := (-1 : Int32)) hx hb hr (fun t ht hW => ⟨rfl, hM.end ht⟩) hM.2.2.1 d_O_spotOf_19
set_option maxHeartbeats 4000000 in
set_option maxRecDepth 100000 in
theorem c_X_told (l : Launch) (G : mG) (τ : mTau) (μ : mMem) (a1 : Int32) (a2 : Int32) (hI : iX μ) : Met l y_X_told w_X_told r_X_told (mPc G τ μ [.ref (τ.1 0 0), .int a1, .int a2]) (mQ G τ (some (.int (f_X_told μ a1 a2))) μ) 0 0 (fun q => G.2.2.1 ≤ q) := by
  refine Met.ofW (cc := b_X_told) (maxL := 4) (ret := (some .int)) (by decide) rfl ?_
  intro p e s m args below meth c s₁ B hml hv
  obtain ⟨rfl, hT, hM⟩ := hv
  have hx := B.exec
  have hb := B.bytes
  have hr := B.returns
  have hts : ∀ w ∈ gG, w.before _ s = true := fun w h => atoms_spec (ws := w_X_told) B.pre w (List.mem_cons_of_mem _ h)
  have hown : s.vm.findClass R_X = some m.cls := findClass_of_methodNamed B.named
  have hlocks := B.notSynchronized
  have hl := lv_entry ([.ref (τ.1 0 0), .int a1, .int a2]) (n := 4) (Nat.le_of_ble_eq_true rfl)
  rw [lg_entry_eq]
  skip
  generalize (lg_sl ([.ref (τ.1 0 0), .int a1, .int a2]) ++ List.replicate (4 - (lg_sl ([.ref (τ.1 0 0), .int a1, .int a2])).length) Slot.unset).toArray = ls at hl ⊢
  have hl : lv_has ls 4 [(0, .ref (τ.1 0 0)), (1, .int a1), (2, .int a2)] := hl
  refine lv_aload_n hx hb d_X_told_0 rfl (lv_at hl 0 rfl) ?_
  refine gf_X_35 hx hb hts hown hT hM (lz_0 hM) d_X_told_1 ?_
  refine lv_iload_n hx hb d_X_told_4 rfl (lv_at hl 1 rfl) ?_
  refine q_X_195 hx hb hml hown hts hT hM (lz_13 hM) (c_O_spotOf l G τ μ a1) ⟨Nat.le_of_ble_eq_true rfl, Nat.le_of_ble_eq_true rfl⟩ ⟨Nat.zero_le _, Nat.zero_le _⟩ (lv_room (Nat.le_of_ble_eq_true rfl)) hl.1 d_X_told_5 (fun H locs hM => ?_)
  refine lv_istore_n (lv' := [(3, .int (f_O_spotOf μ a1)), (0, .ref (τ.1 0 0)), (1, .int a1), (2, .int a2)]) hx hb d_X_told_8 rfl hl (by decide) rfl (fun ls hl => ?_)
  refine lv_iload_n hx hb d_X_told_9 rfl (lv_at hl 0 rfl) ?_
  refine lv_iconst (v := (-1 : Int32)) hx hb d_X_told_10 (by decide) ?_
  refine lv_icmp_ne (tgt := 16) hx hb d_X_told_11 (by decide) (fun c_11 => ?_) (fun c_11 => ?_)
  · skip
    have hs := spot_in hI c_11
    refine lv_iload_n hx hb d_X_told_16 rfl (lv_at hl 3 rfl) ?_
    by_cases c_17_0 : a2 = (0 : Int32)
    · skip
      refine lv_tableIn (tgt := 44) hx hb d_X_told_17 (by rw [c_17_0]; decide) (by rw [c_17_0]; decide) (by rw [c_17_0]; rfl) (by decide) ?_
      refine lv_aload_n hx hb d_X_told_44 rfl (lv_at hl 1 rfl) ?_
      refine gf_X_35 hx hb hts hown hT hM (lz_0 hM) d_X_told_45 ?_
      refine gf_X_198 hx hb hts hown hT hM (lz_13 hM) d_X_told_48 ?_
      refine lv_iload_n hx hb d_X_told_51 rfl (lv_at hl 0 rfl) ?_
      refine al_14 hx hb hT hM (lz_14 hM) (by first | assumption | exact vin 40 (b := 40) (by decide) (by assumption) (by assumption)) d_X_told_52 ?_
      have e_f : f_X_told μ a1 a2 = μ.1 14 0 (f_O_spotOf μ a1).toNatClampNeg := by
        exact (if_neg c_11).trans ((if_pos c_17_0).trans rfl)
      rw [e_f]
      exact W.iret (v := μ.1 14 0 (f_O_spotOf μ a1).toNatClampNeg) hx hb hr (fun t ht hW => ⟨rfl, hM.end ht⟩) hM.2.2.1 d_X_told_53
    · skip
      by_cases c_17_1 : a2 = (1 : Int32)
      · skip
        refine lv_tableIn (tgt := 54) hx hb d_X_told_17 (by rw [c_17_1]; decide) (by rw [c_17_1]; decide) (by rw [c_17_1]; rfl) (by decide) ?_
        refine lv_aload_n hx hb d_X_told_54 rfl (lv_at hl 1 rfl) ?_
        refine gf_X_35 hx hb hts hown hT hM (lz_0 hM) d_X_told_55 ?_
        refine gf_X_201 hx hb hts hown hT hM (lz_13 hM) d_X_told_58 ?_
        refine lv_iload_n hx hb d_X_told_61 rfl (lv_at hl 0 rfl) ?_
        refine al_15 hx hb hT hM (lz_15 hM) (by first | assumption | exact vin 40 (b := 40) (by decide) (by assumption) (by assumption)) d_X_told_62 ?_
        have e_f : f_X_told μ a1 a2 = μ.1 15 0 (f_O_spotOf μ a1).toNatClampNeg := by
          exact (if_neg c_11).trans ((if_neg c_17_0).trans ((if_pos c_17_1).trans rfl))
        rw [e_f]
        exact W.iret (v := μ.1 15 0 (f_O_spotOf μ a1).toNatClampNeg) hx hb hr (fun t ht hW => ⟨rfl, hM.end ht⟩) hM.2.2.1 d_X_told_63
      · skip
        by_cases c_17_2 : a2 = (2 : Int32)
        · skip
          refine lv_tableIn (tgt := 64) hx hb d_X_told_17 (by rw [c_17_2]; decide) (by rw [c_17_2]; decide) (by rw [c_17_2]; rfl) (by decide) ?_
          refine lv_aload_n hx hb d_X_told_64 rfl (lv_at hl 1 rfl) ?_
          refine gf_X_35 hx hb hts hown hT hM (lz_0 hM) d_X_told_65 ?_
          refine gf_X_204 hx hb hts hown hT hM (lz_13 hM) d_X_told_68 ?_
          refine lv_iload_n hx hb d_X_told_71 rfl (lv_at hl 0 rfl) ?_
          refine al_16 hx hb hT hM (lz_16 hM) (by first | assumption | exact vin 40 (b := 40) (by decide) (by assumption) (by assumption)) d_X_told_72 ?_
          have e_f : f_X_told μ a1 a2 = μ.1 16 0 (f_O_spotOf μ a1).toNatClampNeg := by
            exact (if_neg c_11).trans ((if_neg c_17_0).trans ((if_neg c_17_1).trans ((if_pos c_17_2).trans rfl)))
          rw [e_f]
          exact W.iret (v := μ.1 16 0 (f_O_spotOf μ a1).toNatClampNeg) hx hb hr (fun t ht hW => ⟨rfl, hM.end ht⟩) hM.2.2.1 d_X_told_73
        · skip
          refine lv_tableOut (tgt := 74) hx hb d_X_told_17 (by have h0 := sw_ne 0 (by decide) c_17_0; have h1 := sw_ne 1 (by decide) c_17_1; have h2 := sw_ne 2 (by decide) c_17_2; omega) (by decide) ?_
          refine lv_iconst (v := (-1 : Int32)) hx hb d_X_told_74 (by decide) ?_
          have e_f : f_X_told μ a1 a2 = (-1 : Int32) := by
            exact (if_neg c_11).trans ((if_neg c_17_0).trans ((if_neg c_17_1).trans ((if_neg c_17_2).trans rfl)))
          rw [e_f]
          exact W.iret (v := (-1 : Int32)) hx hb hr (fun t ht hW => ⟨rfl, hM.end ht⟩) hM.2.2.1 d_X_told_75
  · skip
    refine lv_iconst (v := (-1 : Int32)) hx hb d_X_told_14 (by decide) ?_
    have e_f : f_X_told μ a1 a2 = (-1 : Int32) := by
      exact (if_pos c_11).trans rfl
    rw [e_f]
    exact W.iret (v := (-1 : Int32)) hx hb hr (fun t ht hW => ⟨rfl, hM.end ht⟩) hM.2.2.1 d_X_told_15
set_option maxHeartbeats 4000000 in
set_option maxRecDepth 100000 in
theorem c_X_value (l : Launch) (G : mG) (τ : mTau) (μ : mMem) (a1 : Int32) (hI : iX μ) : Met l y_X_value w_X_value r_X_value (mPc G τ μ [.ref (τ.1 0 0), .int a1]) (mQ G τ (some (.long (f_X_value μ a1))) μ) 0 0 (fun q => G.2.2.1 ≤ q) := by
  refine Met.ofW (cc := b_X_value) (maxL := 3) (ret := (some .long)) (by decide) rfl ?_
  intro p e s m args below meth c s₁ B hml hv
  obtain ⟨rfl, hT, hM⟩ := hv
  have hx := B.exec
  have hb := B.bytes
  have hr := B.returns
  have hts : ∀ w ∈ gG, w.before _ s = true := fun w h => atoms_spec (ws := w_X_value) B.pre w (List.mem_cons_of_mem _ h)
  have hown : s.vm.findClass R_X = some m.cls := findClass_of_methodNamed B.named
  have hlocks := B.notSynchronized
  have hl := lv_entry ([.ref (τ.1 0 0), .int a1]) (n := 3) (Nat.le_of_ble_eq_true rfl)
  rw [lg_entry_eq]
  skip
  generalize (lg_sl ([.ref (τ.1 0 0), .int a1]) ++ List.replicate (3 - (lg_sl ([.ref (τ.1 0 0), .int a1])).length) Slot.unset).toArray = ls at hl ⊢
  have hl : lv_has ls 3 [(0, .ref (τ.1 0 0)), (1, .int a1)] := hl
  refine lv_aload_n hx hb d_X_value_0 rfl (lv_at hl 0 rfl) ?_
  refine gf_X_35 hx hb hts hown hT hM (lz_0 hM) d_X_value_1 ?_
  refine lv_iload_n hx hb d_X_value_4 rfl (lv_at hl 1 rfl) ?_
  refine q_X_195 hx hb hml hown hts hT hM (lz_13 hM) (c_O_spotOf l G τ μ a1) ⟨Nat.le_of_ble_eq_true rfl, Nat.le_of_ble_eq_true rfl⟩ ⟨Nat.zero_le _, Nat.zero_le _⟩ (lv_room (Nat.le_of_ble_eq_true rfl)) hl.1 d_X_value_5 (fun H locs hM => ?_)
  refine lv_istore_n (lv' := [(2, .int (f_O_spotOf μ a1)), (0, .ref (τ.1 0 0)), (1, .int a1)]) hx hb d_X_value_8 rfl hl (by decide) rfl (fun ls hl => ?_)
  refine lv_iload_n hx hb d_X_value_9 rfl (lv_at hl 0 rfl) ?_
  refine lv_iconst (v := (-1 : Int32)) hx hb d_X_value_10 (by decide) ?_
  refine lv_icmp_ne (tgt := 18) hx hb d_X_value_11 (by decide) (fun c_11 => ?_) (fun c_11 => ?_)
  · skip
    have hs := spot_in hI c_11
    refine lv_aload_n hx hb d_X_value_18 rfl (lv_at hl 1 rfl) ?_
    refine gf_X_35 hx hb hts hown hT hM (lz_0 hM) d_X_value_19 ?_
    refine gf_X_207 hx hb hts hown hT hM (lz_13 hM) d_X_value_22 ?_
    refine lv_iload_n hx hb d_X_value_25 rfl (lv_at hl 0 rfl) ?_
    refine al_17 hx hb hT hM (lz_17 hM) (by first | assumption | exact vin 40 (b := 40) (by decide) (by assumption) (by assumption)) d_X_value_26 ?_
    have e_f : f_X_value μ a1 = μ.2 17 0 (f_O_spotOf μ a1).toNatClampNeg := by
      exact (if_neg c_11).trans rfl
    rw [e_f]
    exact W.lret (v := μ.2 17 0 (f_O_spotOf μ a1).toNatClampNeg) hx hb hr (fun t ht hW => ⟨rfl, hM.end ht⟩) hM.2.2.1 d_X_value_27
  · skip
    refine lv_lconst (v := (0 : Int64)) hx hb d_X_value_14 (by decide) ?_
    refine lv_goto (tgt := 27) hx hb d_X_value_15 (by decide) ?_
    have e_f : f_X_value μ a1 = (0 : Int64) := by
      exact (if_pos c_11).trans rfl
    rw [e_f]
    exact W.lret (v := (0 : Int64)) hx hb hr (fun t ht hW => ⟨rfl, hM.end ht⟩) hM.2.2.1 d_X_value_27
set_option maxHeartbeats 4000000 in
set_option maxRecDepth 100000 in
theorem c_X_count (l : Launch) (G : mG) (τ : mTau) (μ : mMem) (a1 : Int32) : Met l y_X_count w_X_count r_X_count (mPc G τ μ [.ref (τ.1 0 0), .int a1]) (mQ G τ (some (.int (f_X_count μ a1))) μ) 0 0 (fun q => G.2.2.1 ≤ q) := by
  refine Met.ofW (cc := b_X_count) (maxL := 2) (ret := (some .int)) (by decide) rfl ?_
  intro p e s m args below meth c s₁ B hml hv
  obtain ⟨rfl, hT, hM⟩ := hv
  have hx := B.exec
  have hb := B.bytes
  have hr := B.returns
  have hts : ∀ w ∈ gG, w.before _ s = true := fun w h => atoms_spec (ws := w_X_count) B.pre w (List.mem_cons_of_mem _ h)
  have hown : s.vm.findClass R_X = some m.cls := findClass_of_methodNamed B.named
  have hlocks := B.notSynchronized
  have hl := lv_entry ([.ref (τ.1 0 0), .int a1]) (n := 2) (Nat.le_of_ble_eq_true rfl)
  rw [lg_entry_eq]
  skip
  generalize (lg_sl ([.ref (τ.1 0 0), .int a1]) ++ List.replicate (2 - (lg_sl ([.ref (τ.1 0 0), .int a1])).length) Slot.unset).toArray = ls at hl ⊢
  have hl : lv_has ls 2 [(0, .ref (τ.1 0 0)), (1, .int a1)] := hl
  refine lv_iload_n hx hb d_X_count_0 rfl (lv_at hl 1 rfl) ?_
  by_cases c_1_0 : a1 = (0 : Int32)
  · skip
    refine lv_tableIn (tgt := 36) hx hb d_X_count_1 (by rw [c_1_0]; decide) (by rw [c_1_0]; decide) (by rw [c_1_0]; rfl) (by decide) ?_
    refine lv_aload_n hx hb d_X_count_36 rfl (lv_at hl 0 rfl) ?_
    refine gf_X_35 hx hb hts hown hT hM (lz_0 hM) d_X_count_37 ?_
    refine gf_X_211 hx hb hts hown hT hM (lz_13 hM) d_X_count_40 ?_
    have e_f : f_X_count μ a1 = μ.1 13 0 5 := by
      exact (if_pos c_1_0).trans rfl
    rw [e_f]
    exact W.iret (v := μ.1 13 0 5) hx hb hr (fun t ht hW => ⟨rfl, hM.end ht⟩) hM.2.2.1 d_X_count_43
  · skip
    by_cases c_1_1 : a1 = (1 : Int32)
    · skip
      refine lv_tableIn (tgt := 44) hx hb d_X_count_1 (by rw [c_1_1]; decide) (by rw [c_1_1]; decide) (by rw [c_1_1]; rfl) (by decide) ?_
      refine lv_aload_n hx hb d_X_count_44 rfl (lv_at hl 0 rfl) ?_
      refine gf_X_35 hx hb hts hown hT hM (lz_0 hM) d_X_count_45 ?_
      refine gf_X_214 hx hb hts hown hT hM (lz_13 hM) d_X_count_48 ?_
      have e_f : f_X_count μ a1 = μ.1 13 0 6 := by
        exact (if_neg c_1_0).trans ((if_pos c_1_1).trans rfl)
      rw [e_f]
      exact W.iret (v := μ.1 13 0 6) hx hb hr (fun t ht hW => ⟨rfl, hM.end ht⟩) hM.2.2.1 d_X_count_51
    · skip
      by_cases c_1_2 : a1 = (2 : Int32)
      · skip
        refine lv_tableIn (tgt := 52) hx hb d_X_count_1 (by rw [c_1_2]; decide) (by rw [c_1_2]; decide) (by rw [c_1_2]; rfl) (by decide) ?_
        refine lv_aload_n hx hb d_X_count_52 rfl (lv_at hl 0 rfl) ?_
        refine gf_X_35 hx hb hts hown hT hM (lz_0 hM) d_X_count_53 ?_
        refine gf_X_217 hx hb hts hown hT hM (lz_13 hM) d_X_count_56 ?_
        have e_f : f_X_count μ a1 = μ.1 13 0 7 := by
          exact (if_neg c_1_0).trans ((if_neg c_1_1).trans ((if_pos c_1_2).trans rfl))
        rw [e_f]
        exact W.iret (v := μ.1 13 0 7) hx hb hr (fun t ht hW => ⟨rfl, hM.end ht⟩) hM.2.2.1 d_X_count_59
      · skip
        by_cases c_1_3 : a1 = (3 : Int32)
        · skip
          refine lv_tableIn (tgt := 60) hx hb d_X_count_1 (by rw [c_1_3]; decide) (by rw [c_1_3]; decide) (by rw [c_1_3]; rfl) (by decide) ?_
          refine lv_aload_n hx hb d_X_count_60 rfl (lv_at hl 0 rfl) ?_
          refine gf_X_35 hx hb hts hown hT hM (lz_0 hM) d_X_count_61 ?_
          refine gf_X_220 hx hb hts hown hT hM (lz_13 hM) d_X_count_64 ?_
          have e_f : f_X_count μ a1 = μ.1 13 0 8 := by
            exact (if_neg c_1_0).trans ((if_neg c_1_1).trans ((if_neg c_1_2).trans ((if_pos c_1_3).trans rfl)))
          rw [e_f]
          exact W.iret (v := μ.1 13 0 8) hx hb hr (fun t ht hW => ⟨rfl, hM.end ht⟩) hM.2.2.1 d_X_count_67
        · skip
          by_cases c_1_4 : a1 = (4 : Int32)
          · skip
            refine lv_tableIn (tgt := 68) hx hb d_X_count_1 (by rw [c_1_4]; decide) (by rw [c_1_4]; decide) (by rw [c_1_4]; rfl) (by decide) ?_
            refine lv_aload_n hx hb d_X_count_68 rfl (lv_at hl 0 rfl) ?_
            refine gf_X_35 hx hb hts hown hT hM (lz_0 hM) d_X_count_69 ?_
            refine gf_X_223 hx hb hts hown hT hM (lz_13 hM) d_X_count_72 ?_
            have e_f : f_X_count μ a1 = μ.1 13 0 9 := by
              exact (if_neg c_1_0).trans ((if_neg c_1_1).trans ((if_neg c_1_2).trans ((if_neg c_1_3).trans ((if_pos c_1_4).trans rfl))))
            rw [e_f]
            exact W.iret (v := μ.1 13 0 9) hx hb hr (fun t ht hW => ⟨rfl, hM.end ht⟩) hM.2.2.1 d_X_count_75
          · skip
            refine lv_tableOut (tgt := 76) hx hb d_X_count_1 (by have h0 := sw_ne 0 (by decide) c_1_0; have h1 := sw_ne 1 (by decide) c_1_1; have h2 := sw_ne 2 (by decide) c_1_2; have h3 := sw_ne 3 (by decide) c_1_3; have h4 := sw_ne 4 (by decide) c_1_4; omega) (by decide) ?_
            refine lv_iconst (v := (-1 : Int32)) hx hb d_X_count_76 (by decide) ?_
            have e_f : f_X_count μ a1 = (-1 : Int32) := by
              exact (if_neg c_1_0).trans ((if_neg c_1_1).trans ((if_neg c_1_2).trans ((if_neg c_1_3).trans ((if_neg c_1_4).trans rfl))))
            rw [e_f]
            exact W.iret (v := (-1 : Int32)) hx hb hr (fun t ht hW => ⟨rfl, hM.end ht⟩) hM.2.2.1 d_X_count_77
set_option maxHeartbeats 4000000 in
set_option maxRecDepth 100000 in
theorem c_X_keep (l : Launch) (G : mG) (τ : mTau) (μ : mMem) (i1 : Nat) (hi1 : τ.2 2 i1) (hma : vp_in (μ.1 0 0 1) 60) (hid : i1 = (μ.1 0 0 1).toNatClampNeg) : Met l y_X_keep w_X_keep r_X_keep (mPc G τ μ [.ref (τ.1 0 0), .ref (τ.1 2 i1)]) (mQ G τ (some (.int (f_X_keep μ i1).1)) (f_X_keep μ i1).2) 0 0 (fun q => G.2.2.1 ≤ q) := by
  refine Met.ofW (cc := b_X_keep) (maxL := 2) (ret := (some .int)) (by decide) rfl ?_
  intro p e s m args below meth c s₁ B hml hv
  obtain ⟨rfl, hT, hM⟩ := hv
  have hx := B.exec
  have hb := B.bytes
  have hr := B.returns
  have hts : ∀ w ∈ gG, w.before _ s = true := fun w h => atoms_spec (ws := w_X_keep) B.pre w (List.mem_cons_of_mem _ h)
  have hown : s.vm.findClass R_X = some m.cls := findClass_of_methodNamed B.named
  have hlocks := B.notSynchronized
  have hl := lv_entry ([.ref (τ.1 0 0), .ref (τ.1 2 i1)]) (n := 2) (Nat.le_of_ble_eq_true rfl)
  rw [lg_entry_eq]
  skip
  generalize (lg_sl ([.ref (τ.1 0 0), .ref (τ.1 2 i1)]) ++ List.replicate (2 - (lg_sl ([.ref (τ.1 0 0), .ref (τ.1 2 i1)])).length) Slot.unset).toArray = ls at hl ⊢
  have hl : lv_has ls 2 [(0, .ref (τ.1 0 0)), (1, .ref (τ.1 2 i1))] := hl
  refine lv_aload_n hx hb d_X_keep_0 rfl (lv_at hl 0 rfl) ?_
  refine gf_X_11 hx hb hts hown hT hM (lz_0 hM) d_X_keep_1 ?_
  refine lv_aload_n hx hb d_X_keep_4 rfl (lv_at hl 0 rfl) ?_
  refine gf_X_15 hx hb hts hown hT hM (lz_0 hM) d_X_keep_5 ?_
  refine lv_aload_n hx hb d_X_keep_8 rfl (lv_at hl 1 rfl) ?_
  refine aw_1 hx hb hT hM (lz_1 hM) (hid) hi1 (hma) d_X_keep_9 (fun m_9 H locs e_9 hM => ?_)
  refine lv_aload_n hx hb d_X_keep_10 rfl (lv_at hl 0 rfl) ?_
  refine lv_dup hx hb d_X_keep_11 rfl ?_
  refine gf_X_15 hx hb hts hown hT hM (lz_0 hM) d_X_keep_12 ?_
  refine lv_iconst (v := (1 : Int32)) hx hb d_X_keep_15 (by decide) ?_
  refine lv_iadd hx hb d_X_keep_16 ?_
  refine pf_X_15 hx hb hts hown hT hM (lz_0 hM) d_X_keep_17 (fun m_17 H locs e_17 hM => ?_)
  refine lv_aload_n hx hb d_X_keep_20 rfl (lv_at hl 0 rfl) ?_
  refine gf_X_15 hx hb hts hown hT hM (lz_0 hM) d_X_keep_21 ?_
  refine lv_iconst (v := (1 : Int32)) hx hb d_X_keep_24 (by decide) ?_
  refine lv_isub hx hb d_X_keep_25 ?_
  have e_f : f_X_keep μ i1 = ((m_17.1 0 0 1) - (1 : Int32), m_17) := by
    subst e_17 e_9
    exact rfl
  rw [e_f]
  exact W.iret (v := (m_17.1 0 0 1) - (1 : Int32)) hx hb hr (fun t ht hW => ⟨rfl, hM.end ht⟩) hM.2.2.1 d_X_keep_26
set_option maxHeartbeats 4000000 in
set_option maxRecDepth 100000 in
theorem c_P_begin (l : Launch) (G : mG) (τ : mTau) (μ : mMem) (i0 : Nat) (hl0 : τ.2 11 i0) (a1 : Int32) (a2 : Int32) (a3 : Int64) (a4 : Int64) : Met l y_P_begin w_P_begin r_P_begin (mPc G τ μ [.ref (τ.1 11 i0), .int a1, .int a2, .long a3, .long a4]) (mQ G τ none (f_P_begin μ i0 a1 a2 a3 a4)) 0 0 (fun q => G.2.2.1 ≤ q) := by
  refine Met.ofW (cc := b_P_begin) (maxL := 7) (ret := none) (by decide) rfl ?_
  intro p e s m args below meth c s₁ B hml hv
  obtain ⟨rfl, hT, hM⟩ := hv
  have hx := B.exec
  have hb := B.bytes
  have hr := B.returns
  have hts : ∀ w ∈ gG, w.before _ s = true := fun w h => atoms_spec (ws := w_P_begin) B.pre w (List.mem_cons_of_mem _ h)
  have hown : s.vm.findClass R_P = some m.cls := findClass_of_methodNamed B.named
  have hlocks := B.notSynchronized
  have hl := lv_entry ([.ref (τ.1 11 i0), .int a1, .int a2, .long a3, .long a4]) (n := 7) (Nat.le_of_ble_eq_true rfl)
  rw [lg_entry_eq]
  skip
  generalize (lg_sl ([.ref (τ.1 11 i0), .int a1, .int a2, .long a3, .long a4]) ++ List.replicate (7 - (lg_sl ([.ref (τ.1 11 i0), .int a1, .int a2, .long a3, .long a4])).length) Slot.unset).toArray = ls at hl ⊢
  have hl : lv_has ls 7 [(0, .ref (τ.1 11 i0)), (1, .int a1), (2, .int a2), (3, .long a3), (5, .long a4)] := hl
  refine lv_aload_n hx hb d_P_begin_0 rfl (lv_at hl 0 rfl) ?_
  refine lv_iload_n hx hb d_P_begin_1 rfl (lv_at hl 1 rfl) ?_
  refine pf_P_15 hx hb hts hown hT hM hl0 d_P_begin_2 (fun m_2 H locs e_2 hM => ?_)
  refine lv_aload_n hx hb d_P_begin_5 rfl (lv_at hl 0 rfl) ?_
  refine lv_iload_n hx hb d_P_begin_6 rfl (lv_at hl 2 rfl) ?_
  refine pf_P_19 hx hb hts hown hT hM hl0 d_P_begin_7 (fun m_7 H locs e_7 hM => ?_)
  refine lv_aload_n hx hb d_P_begin_10 rfl (lv_at hl 0 rfl) ?_
  refine lv_lload_n hx hb d_P_begin_11 rfl (lv_at hl 3 rfl) ?_
  refine pf_P_22 hx hb hts hown hT hM hl0 d_P_begin_12 (fun m_12 H locs e_12 hM => ?_)
  refine lv_aload_n hx hb d_P_begin_15 rfl (lv_at hl 0 rfl) ?_
  refine lv_lload hx hb d_P_begin_16 (lv_at hl 4 rfl) ?_
  refine pf_P_26 hx hb hts hown hT hM hl0 d_P_begin_18 (fun m_18 H locs e_18 hM => ?_)
  refine lv_aload_n hx hb d_P_begin_21 rfl (lv_at hl 0 rfl) ?_
  refine lv_iconst (v := (0 : Int32)) hx hb d_P_begin_22 (by decide) ?_
  refine pf_P_29 hx hb hts hown hT hM hl0 d_P_begin_23 (fun m_23 H locs e_23 hM => ?_)
  refine lv_aload_n hx hb d_P_begin_26 rfl (lv_at hl 0 rfl) ?_
  refine lv_iconst (v := (0 : Int32)) hx hb d_P_begin_27 (by decide) ?_
  refine pf_P_32 hx hb hts hown hT hM hl0 d_P_begin_28 (fun m_28 H locs e_28 hM => ?_)
  refine lv_aload_n hx hb d_P_begin_31 rfl (lv_at hl 0 rfl) ?_
  refine lv_iconst (v := (0 : Int32)) hx hb d_P_begin_32 (by decide) ?_
  refine pf_P_35 hx hb hts hown hT hM hl0 d_P_begin_33 (fun m_33 H locs e_33 hM => ?_)
  have e_f : f_P_begin μ i0 a1 a2 a3 a4 = m_33 := by
    subst e_33 e_28 e_23 e_18 e_12 e_7 e_2
    exact rfl
  rw [e_f]
  exact W.vret hx hb hr (fun t ht hW => ⟨rfl, hM.end ht⟩) hM.2.2.1 d_P_begin_36
