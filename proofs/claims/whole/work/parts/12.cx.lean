set_option maxHeartbeats 4000000 in
set_option maxRecDepth 100000 in
theorem c_P_reply (l : Launch) (G : mG) (τ : mTau) (μ : mMem) (i0 : Nat) (hl0 : τ.2 11 i0) (a1 : Int64) (hI : iX μ) : Met l y_P_reply w_P_reply r_P_reply (mPc G τ μ [.ref (τ.1 11 i0), .long a1]) (mQ G τ (some (.long (f_P_reply μ i0 a1).1)) (f_P_reply μ i0 a1).2) 0 0 (fun q => G.2.2.1 ≤ q) := by
  refine Met.ofW (cc := b_P_reply) (maxL := 5) (ret := (some .long)) (by decide) rfl ?_
  intro p e s m args below meth c s₁ B hml hv
  obtain ⟨rfl, hT, hM⟩ := hv
  have hx := B.exec
  have hb := B.bytes
  have hr := B.returns
  have hts : ∀ w ∈ gG, w.before _ s = true := fun w h => atoms_spec (ws := w_P_reply) B.pre w (List.mem_cons_of_mem _ h)
  have hown : s.vm.findClass R_P = some m.cls := findClass_of_methodNamed B.named
  have hlocks := B.notSynchronized
  have hl := lv_entry ([.ref (τ.1 11 i0), .long a1]) (n := 5) (Nat.le_of_ble_eq_true rfl)
  rw [lg_entry_eq]
  skip
  generalize (lg_sl ([.ref (τ.1 11 i0), .long a1]) ++ List.replicate (5 - (lg_sl ([.ref (τ.1 11 i0), .long a1])).length) Slot.unset).toArray = ls at hl ⊢
  have hl : lv_has ls 5 [(0, .ref (τ.1 11 i0)), (1, .long a1)] := hl
  refine lv_aload_n hx hb d_P_reply_0 rfl (lv_at hl 0 rfl) ?_
  refine gf_P_32 hx hb hts hown hT hM hl0 d_P_reply_1 ?_
  refine lv_aload_n hx hb d_P_reply_4 rfl (lv_at hl 0 rfl) ?_
  refine gf_P_29 hx hb hts hown hT hM hl0 d_P_reply_5 ?_
  refine lv_icmp_lt (tgt := 13) hx hb d_P_reply_8 (by decide) (fun c_8 => ?_) (fun c_8 => ?_)
  · skip
    refine lv_lload_n hx hb d_P_reply_13 rfl (lv_at hl 1 rfl) ?_
    refine lv_aload_n hx hb d_P_reply_14 rfl (lv_at hl 0 rfl) ?_
    refine gf_P_9 hx hb hts hown hT hM hl0 d_P_reply_15 ?_
    have hv_15 : τ.2 12 i0 := lz_12 hM hl0
    refine lv_aload_n hx hb d_P_reply_18 rfl (lv_at hl 0 rfl) ?_
    refine gf_P_32 hx hb hts hown hT hM hl0 d_P_reply_19 ?_
    refine al_12 hx hb hT hM hv_15 (in_next hI c_8) d_P_reply_22 ?_
    refine lv_ladd hx hb d_P_reply_23 ?_
    refine lv_lstore_n (lv' := [(3, .long (a1 + (μ.2 12 i0 (μ.1 11 i0 6).toNatClampNeg))), (0, .ref (τ.1 11 i0)), (1, .long a1)]) hx hb d_P_reply_24 rfl hl (by decide) rfl (fun ls hl => ?_)
    refine lv_aload_n hx hb d_P_reply_25 rfl (lv_at hl 1 rfl) ?_
    refine lv_aload_n hx hb d_P_reply_26 rfl (lv_at hl 1 rfl) ?_
    refine gf_P_32 hx hb hts hown hT hM hl0 d_P_reply_27 ?_
    refine lv_iconst (v := (1 : Int32)) hx hb d_P_reply_30 (by decide) ?_
    refine lv_iadd hx hb d_P_reply_31 ?_
    refine lv_aload_n hx hb d_P_reply_32 rfl (lv_at hl 1 rfl) ?_
    refine gf_P_29 hx hb hts hown hT hM hl0 d_P_reply_33 ?_
    refine lv_icmp_ge (tgt := 48) hx hb d_P_reply_36 (by decide) (fun c_36 => ?_) (fun c_36 => ?_)
    · skip
      refine lv_iconst (v := (0 : Int32)) hx hb d_P_reply_48 (by decide) ?_
      refine pf_P_32 hx hb hts hown hT hM hl0 d_P_reply_49 (fun m_49 H locs e_49 hM => ?_)
      refine lv_lload_n hx hb d_P_reply_52 rfl (lv_at hl 0 rfl) ?_
      have e_f : f_P_reply μ i0 a1 = (a1 + (μ.2 12 i0 (μ.1 11 i0 6).toNatClampNeg), m_49) := by
        subst e_49
        exact (if_pos c_8).trans ((if_pos c_36).trans rfl)
      rw [e_f]
      exact W.lret (v := a1 + (μ.2 12 i0 (μ.1 11 i0 6).toNatClampNeg)) hx hb hr (fun t ht hW => ⟨rfl, hM.end ht⟩) hM.2.2.1 d_P_reply_53
    · skip
      refine lv_aload_n hx hb d_P_reply_39 rfl (lv_at hl 1 rfl) ?_
      refine gf_P_32 hx hb hts hown hT hM hl0 d_P_reply_40 ?_
      refine lv_iconst (v := (1 : Int32)) hx hb d_P_reply_43 (by decide) ?_
      refine lv_iadd hx hb d_P_reply_44 ?_
      refine lv_goto (tgt := 49) hx hb d_P_reply_45 (by decide) ?_
      refine pf_P_32 hx hb hts hown hT hM hl0 d_P_reply_49 (fun m_49 H locs e_49 hM => ?_)
      refine lv_lload_n hx hb d_P_reply_52 rfl (lv_at hl 0 rfl) ?_
      have e_f : f_P_reply μ i0 a1 = (a1 + (μ.2 12 i0 (μ.1 11 i0 6).toNatClampNeg), m_49) := by
        subst e_49
        exact (if_pos c_8).trans ((if_neg c_36).trans rfl)
      rw [e_f]
      exact W.lret (v := a1 + (μ.2 12 i0 (μ.1 11 i0 6).toNatClampNeg)) hx hb hr (fun t ht hW => ⟨rfl, hM.end ht⟩) hM.2.2.1 d_P_reply_53
  · skip
    refine lv_lload_n hx hb d_P_reply_11 rfl (lv_at hl 1 rfl) ?_
    have e_f : f_P_reply μ i0 a1 = (a1, μ) := by
      exact (if_neg c_8).trans rfl
    rw [e_f]
    exact W.lret (v := a1) hx hb hr (fun t ht hW => ⟨rfl, hM.end ht⟩) hM.2.2.1 d_P_reply_12
set_option maxHeartbeats 4000000 in
set_option maxRecDepth 100000 in
theorem c_X_call (l : Launch) (G : mG) (τ : mTau) (μ : mMem) (a1 : Int32) (a2 : Int32) (a3 : Int64) (hI : iX μ) : Met l y_X_call w_X_call r_X_call (mPc G τ μ [.ref (τ.1 0 0), .int a1, .int a2, .long a3]) (mQ G τ (some (.long (f_X_call μ a1 a2 a3).1)) (f_X_call μ a1 a2 a3).2) 0 0 (fun q => G.2.2.1 ≤ q) := by
  refine Met.ofW (cc := b_X_call) (maxL := 12) (ret := (some .long)) (by decide) rfl ?_
  intro p e s m args below meth c s₁ B hml hv
  obtain ⟨rfl, hT, hM⟩ := hv
  have hx := B.exec
  have hb := B.bytes
  have hr := B.returns
  have hts : ∀ w ∈ gG, w.before _ s = true := fun w h => atoms_spec (ws := w_X_call) B.pre w (List.mem_cons_of_mem _ h)
  have hown : s.vm.findClass R_X = some m.cls := findClass_of_methodNamed B.named
  have hlocks := B.notSynchronized
  have hl := lv_entry ([.ref (τ.1 0 0), .int a1, .int a2, .long a3]) (n := 12) (Nat.le_of_ble_eq_true rfl)
  rw [lg_entry_eq]
  skip
  generalize (lg_sl ([.ref (τ.1 0 0), .int a1, .int a2, .long a3]) ++ List.replicate (12 - (lg_sl ([.ref (τ.1 0 0), .int a1, .int a2, .long a3])).length) Slot.unset).toArray = ls at hl ⊢
  have hl : lv_has ls 12 [(0, .ref (τ.1 0 0)), (1, .int a1), (2, .int a2), (3, .long a3)] := hl
  refine lv_aload_n hx hb d_X_call_0 rfl (lv_at hl 0 rfl) ?_
  refine lv_iload_n hx hb d_X_call_1 rfl (lv_at hl 1 rfl) ?_
  refine q_X_111 hx hb hml hown hts hT hM (lz_0 hM) (c_X_partAt l G τ μ a1) ⟨Nat.le_of_ble_eq_true rfl, Nat.le_of_ble_eq_true rfl⟩ ⟨Nat.zero_le _, Nat.zero_le _⟩ (lv_room (Nat.le_of_ble_eq_true rfl)) hl.1 d_X_call_2 (fun H locs hM ho_2 => ?_) (fun H locs hM i_2 ho_2 hv_2 => ?_)
  · skip
    refine lv_astoreN (lv' := [(5, .null), (0, .ref (τ.1 0 0)), (1, .int a1), (2, .int a2), (3, .long a3)]) hx hb d_X_call_5 hl (by decide) rfl (fun ls hl => ?_)
    refine lv_aload_n hx hb d_X_call_7 rfl (lv_at hl 1 rfl) ?_
    refine lv_iload_n hx hb d_X_call_8 rfl (lv_at hl 3 rfl) ?_
    refine q_X_53 hx hb hml hown hts hT hM (lz_0 hM) (c_X_thingAt l G τ μ a2) ⟨Nat.le_of_ble_eq_true rfl, Nat.le_of_ble_eq_true rfl⟩ ⟨Nat.zero_le _, Nat.zero_le _⟩ (lv_room (Nat.le_of_ble_eq_true rfl)) hl.1 d_X_call_9 (fun H locs hM ho_9 => ?_) (fun H locs hM i_9 ho_9 hv_9 => ?_)
    · skip
      refine lv_astoreN (lv' := [(6, .null), (5, .null), (0, .ref (τ.1 0 0)), (1, .int a1), (2, .int a2), (3, .long a3)]) hx hb d_X_call_12 hl (by decide) rfl (fun ls hl => ?_)
      refine lv_aloadN hx hb d_X_call_14 (lv_at hl 1 rfl) ?_
      refine lv_ifnullN (tgt := 37) hx hb d_X_call_16 (by decide) ?_
      refine lv_aload_n hx hb d_X_call_37 rfl (lv_at hl 2 rfl) ?_
      refine lv_iconst (v := (4 : Int32)) hx hb d_X_call_38 (by decide) ?_
      refine lv_iload_n hx hb d_X_call_39 rfl (lv_at hl 4 rfl) ?_
      refine lv_iload_n hx hb d_X_call_40 rfl (lv_at hl 3 rfl) ?_
      refine lv_ldc2 (v := (-1 : Int64)) hx hb hown (hts _ kw_constantLong_129__1) d_X_call_41 ?_
      refine q_X_131 hx hb hml hown hts hT hM (lz_0 hM) (c_X_tell l G τ μ (4 : Int32) a2 a1 (-1 : Int64) (hI)) ⟨Nat.le_of_ble_eq_true rfl, Nat.le_of_ble_eq_true rfl⟩ ⟨Nat.zero_le _, Nat.zero_le _⟩ (lv_room (Nat.le_of_ble_eq_true rfl)) hl.1 d_X_call_44 (fun H locs hM => ?_)
      obtain ⟨m_44, e_44⟩ : ∃ z : mMem, z = (f_X_tell μ (4 : Int32) a2 a1 (-1 : Int64)).2 := ⟨_, rfl⟩
      rw [← e_44] at hM
      have e_f : f_X_call μ a1 a2 a3 = ((f_X_tell μ (4 : Int32) a2 a1 (-1 : Int64)).1, m_44) := by
        subst e_44
        exact (oC_n ho_2).trans ((oC_n ho_9).trans rfl)
      rw [e_f]
      exact W.lret (v := (f_X_tell μ (4 : Int32) a2 a1 (-1 : Int64)).1) hx hb hr (fun t ht hW => ⟨rfl, hM.end ht⟩) hM.2.2.1 d_X_call_47
    · skip
      refine lv_astore (lv' := [(6, .ref (τ.1 2 i_9)), (5, .null), (0, .ref (τ.1 0 0)), (1, .int a1), (2, .int a2), (3, .long a3)]) hx hb d_X_call_12 hl (by decide) rfl (fun ls hl => ?_)
      refine lv_aloadN hx hb d_X_call_14 (lv_at hl 1 rfl) ?_
      refine lv_ifnullN (tgt := 37) hx hb d_X_call_16 (by decide) ?_
      refine lv_aload_n hx hb d_X_call_37 rfl (lv_at hl 2 rfl) ?_
      refine lv_iconst (v := (4 : Int32)) hx hb d_X_call_38 (by decide) ?_
      refine lv_iload_n hx hb d_X_call_39 rfl (lv_at hl 4 rfl) ?_
      refine lv_iload_n hx hb d_X_call_40 rfl (lv_at hl 3 rfl) ?_
      refine lv_ldc2 (v := (-1 : Int64)) hx hb hown (hts _ kw_constantLong_129__1) d_X_call_41 ?_
      refine q_X_131 hx hb hml hown hts hT hM (lz_0 hM) (c_X_tell l G τ μ (4 : Int32) a2 a1 (-1 : Int64) (hI)) ⟨Nat.le_of_ble_eq_true rfl, Nat.le_of_ble_eq_true rfl⟩ ⟨Nat.zero_le _, Nat.zero_le _⟩ (lv_room (Nat.le_of_ble_eq_true rfl)) hl.1 d_X_call_44 (fun H locs hM => ?_)
      obtain ⟨m_44, e_44⟩ : ∃ z : mMem, z = (f_X_tell μ (4 : Int32) a2 a1 (-1 : Int64)).2 := ⟨_, rfl⟩
      rw [← e_44] at hM
      have e_f : f_X_call μ a1 a2 a3 = ((f_X_tell μ (4 : Int32) a2 a1 (-1 : Int64)).1, m_44) := by
        subst e_44
        exact (oC_n ho_2).trans ((oC_s ho_9).trans rfl)
      rw [e_f]
      exact W.lret (v := (f_X_tell μ (4 : Int32) a2 a1 (-1 : Int64)).1) hx hb hr (fun t ht hW => ⟨rfl, hM.end ht⟩) hM.2.2.1 d_X_call_47
  · skip
    refine lv_astore (lv' := [(5, .ref (τ.1 11 i_2)), (0, .ref (τ.1 0 0)), (1, .int a1), (2, .int a2), (3, .long a3)]) hx hb d_X_call_5 hl (by decide) rfl (fun ls hl => ?_)
    refine lv_aload_n hx hb d_X_call_7 rfl (lv_at hl 1 rfl) ?_
    refine lv_iload_n hx hb d_X_call_8 rfl (lv_at hl 3 rfl) ?_
    refine q_X_53 hx hb hml hown hts hT hM (lz_0 hM) (c_X_thingAt l G τ μ a2) ⟨Nat.le_of_ble_eq_true rfl, Nat.le_of_ble_eq_true rfl⟩ ⟨Nat.zero_le _, Nat.zero_le _⟩ (lv_room (Nat.le_of_ble_eq_true rfl)) hl.1 d_X_call_9 (fun H locs hM ho_9 => ?_) (fun H locs hM i_9 ho_9 hv_9 => ?_)
    · skip
      refine lv_astoreN (lv' := [(6, .null), (5, .ref (τ.1 11 i_2)), (0, .ref (τ.1 0 0)), (1, .int a1), (2, .int a2), (3, .long a3)]) hx hb d_X_call_12 hl (by decide) rfl (fun ls hl => ?_)
      refine lv_aload hx hb d_X_call_14 (lv_at hl 1 rfl) ?_
      refine lv_ifnull hx hb d_X_call_16 ?_
      refine lv_aloadN hx hb d_X_call_19 (lv_at hl 0 rfl) ?_
      refine lv_ifnullN (tgt := 37) hx hb d_X_call_21 (by decide) ?_
      refine lv_aload_n hx hb d_X_call_37 rfl (lv_at hl 2 rfl) ?_
      refine lv_iconst (v := (4 : Int32)) hx hb d_X_call_38 (by decide) ?_
      refine lv_iload_n hx hb d_X_call_39 rfl (lv_at hl 4 rfl) ?_
      refine lv_iload_n hx hb d_X_call_40 rfl (lv_at hl 3 rfl) ?_
      refine lv_ldc2 (v := (-1 : Int64)) hx hb hown (hts _ kw_constantLong_129__1) d_X_call_41 ?_
      refine q_X_131 hx hb hml hown hts hT hM (lz_0 hM) (c_X_tell l G τ μ (4 : Int32) a2 a1 (-1 : Int64) (hI)) ⟨Nat.le_of_ble_eq_true rfl, Nat.le_of_ble_eq_true rfl⟩ ⟨Nat.zero_le _, Nat.zero_le _⟩ (lv_room (Nat.le_of_ble_eq_true rfl)) hl.1 d_X_call_44 (fun H locs hM => ?_)
      obtain ⟨m_44, e_44⟩ : ∃ z : mMem, z = (f_X_tell μ (4 : Int32) a2 a1 (-1 : Int64)).2 := ⟨_, rfl⟩
      rw [← e_44] at hM
      have e_f : f_X_call μ a1 a2 a3 = ((f_X_tell μ (4 : Int32) a2 a1 (-1 : Int64)).1, m_44) := by
        subst e_44
        exact (oC_s ho_2).trans ((oC_n ho_9).trans rfl)
      rw [e_f]
      exact W.lret (v := (f_X_tell μ (4 : Int32) a2 a1 (-1 : Int64)).1) hx hb hr (fun t ht hW => ⟨rfl, hM.end ht⟩) hM.2.2.1 d_X_call_47
    · skip
      refine lv_astore (lv' := [(6, .ref (τ.1 2 i_9)), (5, .ref (τ.1 11 i_2)), (0, .ref (τ.1 0 0)), (1, .int a1), (2, .int a2), (3, .long a3)]) hx hb d_X_call_12 hl (by decide) rfl (fun ls hl => ?_)
      refine lv_aload hx hb d_X_call_14 (lv_at hl 1 rfl) ?_
      refine lv_ifnull hx hb d_X_call_16 ?_
      refine lv_aload hx hb d_X_call_19 (lv_at hl 0 rfl) ?_
      refine lv_ifnull hx hb d_X_call_21 ?_
      refine lv_aload hx hb d_X_call_24 (lv_at hl 0 rfl) ?_
      refine gf_X_57 hx hb hts hown hT hM hv_9 d_X_call_26 ?_
      refine lv_aload hx hb d_X_call_29 (lv_at hl 1 rfl) ?_
      refine gf_X_128 hx hb hts hown hT hM hv_2 d_X_call_31 ?_
      refine lv_icmp_eq (tgt := 48) hx hb d_X_call_34 (by decide) (fun c_34 => ?_) (fun c_34 => ?_)
      · skip
        refine lv_aload_n hx hb d_X_call_48 rfl (lv_at hl 2 rfl) ?_
        refine lv_aload hx hb d_X_call_49 (lv_at hl 1 rfl) ?_
        refine lv_aload hx hb d_X_call_51 (lv_at hl 0 rfl) ?_
        refine gf_X_64 hx hb hts hown hT hM hv_9 d_X_call_53 ?_
        have hv_53 : τ.2 3 ((μ.1 2 i_9 2).toNatClampNeg) := lz_3 hM hv_9
        refine lv_lload_n hx hb d_X_call_56 rfl (lv_at hl 5 rfl) ?_
        refine q_X_135 hx hb hml hown hts hT hM (lz_0 hM) (c_X_refusalOf l G τ μ i_2 hv_2 ((μ.1 2 i_9 2).toNatClampNeg) hv_53 a3) ⟨Nat.le_of_ble_eq_true rfl, Nat.le_of_ble_eq_true rfl⟩ ⟨Nat.zero_le _, Nat.zero_le _⟩ (lv_room (Nat.le_of_ble_eq_true rfl)) hl.1 d_X_call_57 (fun H locs hM => ?_)
        refine lv_lstore (lv' := [(7, .long (f_X_refusalOf μ i_2 ((μ.1 2 i_9 2).toNatClampNeg) a3)), (6, .ref (τ.1 2 i_9)), (5, .ref (τ.1 11 i_2)), (0, .ref (τ.1 0 0)), (1, .int a1), (2, .int a2), (3, .long a3)]) hx hb d_X_call_60 hl (by decide) rfl (fun ls hl => ?_)
        refine lv_lload hx hb d_X_call_62 (lv_at hl 0 rfl) ?_
        refine lv_lconst (v := (0 : Int64)) hx hb d_X_call_64 (by decide) ?_
        refine W.lcmp hx hb d_X_call_65 ?_
        refine lv_if_eq (tgt := 79) hx hb d_X_call_66 (by decide) (fun c_66 => ?_) (fun c_66 => ?_)
        · skip
          refine lv_lload_n hx hb d_X_call_79 rfl (lv_at hl 6 rfl) ?_
          refine lv_aload_n hx hb d_X_call_80 rfl (lv_at hl 3 rfl) ?_
          refine gf_X_22 hx hb hts hown hT hM (lz_0 hM) d_X_call_81 ?_
          refine lv_aload hx hb d_X_call_84 (lv_at hl 2 rfl) ?_
          refine gf_X_139 hx hb hts hown hT hM hv_2 d_X_call_86 ?_
          refine q_X_142 hx hb hml hown hts hT hM (lz_7 hM) (c_C_sum l G τ μ (μ.1 11 i_2 1)) ⟨Nat.le_of_ble_eq_true rfl, Nat.le_of_ble_eq_true rfl⟩ ⟨Nat.zero_le _, Nat.zero_le _⟩ (lv_room (Nat.le_of_ble_eq_true rfl)) hl.1 d_X_call_89 (fun H locs hM => ?_)
          refine lv_ladd hx hb d_X_call_92 ?_
          refine lv_lstore (lv' := [(9, .long (a3 + (f_C_sum μ (μ.1 11 i_2 1)))), (7, .long (f_X_refusalOf μ i_2 ((μ.1 2 i_9 2).toNatClampNeg) a3)), (6, .ref (τ.1 2 i_9)), (5, .ref (τ.1 11 i_2)), (0, .ref (τ.1 0 0)), (1, .int a1), (2, .int a2), (3, .long a3)]) hx hb d_X_call_93 hl (by decide) rfl (fun ls hl => ?_)
          refine lv_aload hx hb d_X_call_95 (lv_at hl 3 rfl) ?_
          refine gf_X_139 hx hb hts hown hT hM hv_2 d_X_call_97 ?_
          refine lv_iconst (v := (-1 : Int32)) hx hb d_X_call_100 (by decide) ?_
          refine lv_icmp_eq (tgt := 150) hx hb d_X_call_101 (by decide) (fun c_101 => ?_) (fun c_101 => ?_)
          · skip
            refine lv_aload hx hb d_X_call_150 (lv_at hl 3 rfl) ?_
            refine q_X_156 hx hb hml hown hts hT hM hv_2 (c_P_outcome l G τ μ i_2 hv_2) ⟨Nat.le_of_ble_eq_true rfl, Nat.le_of_ble_eq_true rfl⟩ ⟨Nat.zero_le _, Nat.zero_le _⟩ (lv_room (Nat.le_of_ble_eq_true rfl)) hl.1 d_X_call_152 (fun H locs hM => ?_)
            obtain ⟨m_152, e_152⟩ : ∃ z : mMem, z = (f_P_outcome μ i_2).2 := ⟨_, rfl⟩
            rw [← e_152] at hM
            have hI : iX m_152 := by rw [e_152]; exact iX_P_outcome hI
            refine lv_istore (lv' := [(11, .int ((f_P_outcome μ i_2).1)), (9, .long (a3 + (f_C_sum μ (μ.1 11 i_2 1)))), (7, .long (f_X_refusalOf μ i_2 ((μ.1 2 i_9 2).toNatClampNeg) a3)), (6, .ref (τ.1 2 i_9)), (5, .ref (τ.1 11 i_2)), (0, .ref (τ.1 0 0)), (1, .int a1), (2, .int a2), (3, .long a3)]) hx hb d_X_call_155 hl (by decide) rfl (fun ls hl => ?_)
            refine lv_iload hx hb d_X_call_157 (lv_at hl 0 rfl) ?_
            refine lv_if_eq (tgt := 178) hx hb d_X_call_159 (by decide) (fun c_159 => ?_) (fun c_159 => ?_)
            · skip
              refine lv_aload_n hx hb d_X_call_178 rfl (lv_at hl 5 rfl) ?_
              refine gf_X_22 hx hb hts hown hT hM (lz_0 hM) d_X_call_179 ?_
              refine lv_aload hx hb d_X_call_182 (lv_at hl 4 rfl) ?_
              refine gf_X_139 hx hb hts hown hT hM hv_2 d_X_call_184 ?_
              refine q_X_146 hx hb hml hown hts hT hM (lz_7 hM) (c_C_empty l G τ m_152 (m_152.1 11 i_2 1)) ⟨Nat.le_of_ble_eq_true rfl, Nat.le_of_ble_eq_true rfl⟩ ⟨Nat.zero_le _, Nat.zero_le _⟩ (lv_room (Nat.le_of_ble_eq_true rfl)) hl.1 d_X_call_187 (fun H locs hM => ?_)
              obtain ⟨m_187, e_187⟩ : ∃ z : mMem, z = (f_C_empty m_152 (m_152.1 11 i_2 1)) := ⟨_, rfl⟩
              rw [← e_187] at hM
              have hI : iX m_187 := by rw [e_187]; exact iX_C_empty hI
              refine lv_aload_n hx hb d_X_call_190 rfl (lv_at hl 5 rfl) ?_
              refine lv_iconst (v := (0 : Int32)) hx hb d_X_call_191 (by decide) ?_
              refine lv_iload_n hx hb d_X_call_192 rfl (lv_at hl 7 rfl) ?_
              refine lv_iload_n hx hb d_X_call_193 rfl (lv_at hl 6 rfl) ?_
              refine lv_aload hx hb d_X_call_194 (lv_at hl 4 rfl) ?_
              refine lv_lload hx hb d_X_call_196 (lv_at hl 1 rfl) ?_
              refine q_X_162 hx hb hml hown hts hT hM hv_2 (c_P_reply l G τ m_187 i_2 hv_2 (a3 + (f_C_sum μ (μ.1 11 i_2 1))) (hI)) ⟨Nat.le_of_ble_eq_true rfl, Nat.le_of_ble_eq_true rfl⟩ ⟨Nat.zero_le _, Nat.zero_le _⟩ (lv_room (Nat.le_of_ble_eq_true rfl)) hl.1 d_X_call_198 (fun H locs hM => ?_)
              obtain ⟨m_198, e_198⟩ : ∃ z : mMem, z = (f_P_reply m_187 i_2 (a3 + (f_C_sum μ (μ.1 11 i_2 1)))).2 := ⟨_, rfl⟩
              rw [← e_198] at hM
              have hI : iX m_198 := by rw [e_198]; exact iX_P_reply hI
              refine q_X_131 hx hb hml hown hts hT hM (lz_0 hM) (c_X_tell l G τ m_198 (0 : Int32) a2 a1 ((f_P_reply m_187 i_2 (a3 + (f_C_sum μ (μ.1 11 i_2 1)))).1) (hI)) ⟨Nat.le_of_ble_eq_true rfl, Nat.le_of_ble_eq_true rfl⟩ ⟨Nat.zero_le _, Nat.zero_le _⟩ (lv_room (Nat.le_of_ble_eq_true rfl)) hl.1 d_X_call_201 (fun H locs hM => ?_)
              obtain ⟨m_201, e_201⟩ : ∃ z : mMem, z = (f_X_tell m_198 (0 : Int32) a2 a1 ((f_P_reply m_187 i_2 (a3 + (f_C_sum μ (μ.1 11 i_2 1)))).1)).2 := ⟨_, rfl⟩
              rw [← e_201] at hM
              have e_f : f_X_call μ a1 a2 a3 = ((f_X_tell m_198 (0 : Int32) a2 a1 ((f_P_reply m_187 i_2 (a3 + (f_C_sum μ (μ.1 11 i_2 1)))).1)).1, m_201) := by
                subst e_201 e_198 e_187 e_152
                exact (oC_s ho_2).trans ((oC_s ho_9).trans ((if_pos c_34).trans ((if_pos c_66).trans ((if_pos c_101).trans ((if_pos c_159).trans rfl)))))
              rw [e_f]
              exact W.lret (v := (f_X_tell m_198 (0 : Int32) a2 a1 ((f_P_reply m_187 i_2 (a3 + (f_C_sum μ (μ.1 11 i_2 1)))).1)).1) hx hb hr (fun t ht hW => ⟨rfl, hM.end ht⟩) hM.2.2.1 d_X_call_204
            · skip
              refine lv_aload_n hx hb d_X_call_162 rfl (lv_at hl 5 rfl) ?_
              refine lv_iload hx hb d_X_call_163 (lv_at hl 0 rfl) ?_
              refine lv_iload_n hx hb d_X_call_165 rfl (lv_at hl 7 rfl) ?_
              refine lv_iload_n hx hb d_X_call_166 rfl (lv_at hl 6 rfl) ?_
              refine lv_ldc2 (v := (-10 : Int64)) hx hb hown (hts _ kw_constantLong_160__10) d_X_call_167 ?_
              refine lv_iload hx hb d_X_call_170 (lv_at hl 0 rfl) ?_
              refine lv_i2l hx hb d_X_call_172 rfl ?_
              refine lv_lsub hx hb d_X_call_173 ?_
              refine q_X_131 hx hb hml hown hts hT hM (lz_0 hM) (c_X_tell l G τ m_152 ((f_P_outcome μ i_2).1) a2 a1 ((-10 : Int64) - (((f_P_outcome μ i_2).1).toInt64)) (hI)) ⟨Nat.le_of_ble_eq_true rfl, Nat.le_of_ble_eq_true rfl⟩ ⟨Nat.zero_le _, Nat.zero_le _⟩ (lv_room (Nat.le_of_ble_eq_true rfl)) hl.1 d_X_call_174 (fun H locs hM => ?_)
              obtain ⟨m_174, e_174⟩ : ∃ z : mMem, z = (f_X_tell m_152 ((f_P_outcome μ i_2).1) a2 a1 ((-10 : Int64) - (((f_P_outcome μ i_2).1).toInt64))).2 := ⟨_, rfl⟩
              rw [← e_174] at hM
              have e_f : f_X_call μ a1 a2 a3 = ((f_X_tell m_152 ((f_P_outcome μ i_2).1) a2 a1 ((-10 : Int64) - (((f_P_outcome μ i_2).1).toInt64))).1, m_174) := by
                subst e_174 e_152
                exact (oC_s ho_2).trans ((oC_s ho_9).trans ((if_pos c_34).trans ((if_pos c_66).trans ((if_pos c_101).trans ((if_neg c_159).trans rfl)))))
              rw [e_f]
              exact W.lret (v := (f_X_tell m_152 ((f_P_outcome μ i_2).1) a2 a1 ((-10 : Int64) - (((f_P_outcome μ i_2).1).toInt64))).1) hx hb hr (fun t ht hW => ⟨rfl, hM.end ht⟩) hM.2.2.1 d_X_call_177
          · skip
            refine lv_aload hx hb d_X_call_104 (lv_at hl 2 rfl) ?_
            refine gf_X_64 hx hb hts hown hT hM hv_9 d_X_call_106 ?_
            have hv_106 : τ.2 3 ((μ.1 2 i_9 2).toNatClampNeg) := lz_3 hM hv_9
            refine q_X_68 hx hb hml hown hts hT hM hv_106 (c_B_isOn l G τ μ ((μ.1 2 i_9 2).toNatClampNeg) hv_106) ⟨Nat.le_of_ble_eq_true rfl, Nat.le_of_ble_eq_true rfl⟩ ⟨Nat.zero_le _, Nat.zero_le _⟩ (lv_room (Nat.le_of_ble_eq_true rfl)) hl.1 d_X_call_109 (fun H locs hM => ?_)
            refine lv_if_eq (tgt := 150) hx hb d_X_call_112 (by decide) (fun c_112 => ?_) (fun c_112 => ?_)
            · skip
              refine lv_aload hx hb d_X_call_150 (lv_at hl 3 rfl) ?_
              refine q_X_156 hx hb hml hown hts hT hM hv_2 (c_P_outcome l G τ μ i_2 hv_2) ⟨Nat.le_of_ble_eq_true rfl, Nat.le_of_ble_eq_true rfl⟩ ⟨Nat.zero_le _, Nat.zero_le _⟩ (lv_room (Nat.le_of_ble_eq_true rfl)) hl.1 d_X_call_152 (fun H locs hM => ?_)
              obtain ⟨m_152, e_152⟩ : ∃ z : mMem, z = (f_P_outcome μ i_2).2 := ⟨_, rfl⟩
              rw [← e_152] at hM
              have hI : iX m_152 := by rw [e_152]; exact iX_P_outcome hI
              refine lv_istore (lv' := [(11, .int ((f_P_outcome μ i_2).1)), (9, .long (a3 + (f_C_sum μ (μ.1 11 i_2 1)))), (7, .long (f_X_refusalOf μ i_2 ((μ.1 2 i_9 2).toNatClampNeg) a3)), (6, .ref (τ.1 2 i_9)), (5, .ref (τ.1 11 i_2)), (0, .ref (τ.1 0 0)), (1, .int a1), (2, .int a2), (3, .long a3)]) hx hb d_X_call_155 hl (by decide) rfl (fun ls hl => ?_)
              refine lv_iload hx hb d_X_call_157 (lv_at hl 0 rfl) ?_
              refine lv_if_eq (tgt := 178) hx hb d_X_call_159 (by decide) (fun c_159 => ?_) (fun c_159 => ?_)
              · skip
                refine lv_aload_n hx hb d_X_call_178 rfl (lv_at hl 5 rfl) ?_
                refine gf_X_22 hx hb hts hown hT hM (lz_0 hM) d_X_call_179 ?_
                refine lv_aload hx hb d_X_call_182 (lv_at hl 4 rfl) ?_
                refine gf_X_139 hx hb hts hown hT hM hv_2 d_X_call_184 ?_
                refine q_X_146 hx hb hml hown hts hT hM (lz_7 hM) (c_C_empty l G τ m_152 (m_152.1 11 i_2 1)) ⟨Nat.le_of_ble_eq_true rfl, Nat.le_of_ble_eq_true rfl⟩ ⟨Nat.zero_le _, Nat.zero_le _⟩ (lv_room (Nat.le_of_ble_eq_true rfl)) hl.1 d_X_call_187 (fun H locs hM => ?_)
                obtain ⟨m_187, e_187⟩ : ∃ z : mMem, z = (f_C_empty m_152 (m_152.1 11 i_2 1)) := ⟨_, rfl⟩
                rw [← e_187] at hM
                have hI : iX m_187 := by rw [e_187]; exact iX_C_empty hI
                refine lv_aload_n hx hb d_X_call_190 rfl (lv_at hl 5 rfl) ?_
                refine lv_iconst (v := (0 : Int32)) hx hb d_X_call_191 (by decide) ?_
                refine lv_iload_n hx hb d_X_call_192 rfl (lv_at hl 7 rfl) ?_
                refine lv_iload_n hx hb d_X_call_193 rfl (lv_at hl 6 rfl) ?_
                refine lv_aload hx hb d_X_call_194 (lv_at hl 4 rfl) ?_
                refine lv_lload hx hb d_X_call_196 (lv_at hl 1 rfl) ?_
                refine q_X_162 hx hb hml hown hts hT hM hv_2 (c_P_reply l G τ m_187 i_2 hv_2 (a3 + (f_C_sum μ (μ.1 11 i_2 1))) (hI)) ⟨Nat.le_of_ble_eq_true rfl, Nat.le_of_ble_eq_true rfl⟩ ⟨Nat.zero_le _, Nat.zero_le _⟩ (lv_room (Nat.le_of_ble_eq_true rfl)) hl.1 d_X_call_198 (fun H locs hM => ?_)
                obtain ⟨m_198, e_198⟩ : ∃ z : mMem, z = (f_P_reply m_187 i_2 (a3 + (f_C_sum μ (μ.1 11 i_2 1)))).2 := ⟨_, rfl⟩
                rw [← e_198] at hM
                have hI : iX m_198 := by rw [e_198]; exact iX_P_reply hI
                refine q_X_131 hx hb hml hown hts hT hM (lz_0 hM) (c_X_tell l G τ m_198 (0 : Int32) a2 a1 ((f_P_reply m_187 i_2 (a3 + (f_C_sum μ (μ.1 11 i_2 1)))).1) (hI)) ⟨Nat.le_of_ble_eq_true rfl, Nat.le_of_ble_eq_true rfl⟩ ⟨Nat.zero_le _, Nat.zero_le _⟩ (lv_room (Nat.le_of_ble_eq_true rfl)) hl.1 d_X_call_201 (fun H locs hM => ?_)
                obtain ⟨m_201, e_201⟩ : ∃ z : mMem, z = (f_X_tell m_198 (0 : Int32) a2 a1 ((f_P_reply m_187 i_2 (a3 + (f_C_sum μ (μ.1 11 i_2 1)))).1)).2 := ⟨_, rfl⟩
                rw [← e_201] at hM
                have e_f : f_X_call μ a1 a2 a3 = ((f_X_tell m_198 (0 : Int32) a2 a1 ((f_P_reply m_187 i_2 (a3 + (f_C_sum μ (μ.1 11 i_2 1)))).1)).1, m_201) := by
                  subst e_201 e_198 e_187 e_152
                  exact (oC_s ho_2).trans ((oC_s ho_9).trans ((if_pos c_34).trans ((if_pos c_66).trans ((if_neg c_101).trans ((if_pos c_112).trans ((if_pos c_159).trans rfl))))))
                rw [e_f]
                exact W.lret (v := (f_X_tell m_198 (0 : Int32) a2 a1 ((f_P_reply m_187 i_2 (a3 + (f_C_sum μ (μ.1 11 i_2 1)))).1)).1) hx hb hr (fun t ht hW => ⟨rfl, hM.end ht⟩) hM.2.2.1 d_X_call_204
              · skip
                refine lv_aload_n hx hb d_X_call_162 rfl (lv_at hl 5 rfl) ?_
                refine lv_iload hx hb d_X_call_163 (lv_at hl 0 rfl) ?_
                refine lv_iload_n hx hb d_X_call_165 rfl (lv_at hl 7 rfl) ?_
                refine lv_iload_n hx hb d_X_call_166 rfl (lv_at hl 6 rfl) ?_
                refine lv_ldc2 (v := (-10 : Int64)) hx hb hown (hts _ kw_constantLong_160__10) d_X_call_167 ?_
                refine lv_iload hx hb d_X_call_170 (lv_at hl 0 rfl) ?_
                refine lv_i2l hx hb d_X_call_172 rfl ?_
                refine lv_lsub hx hb d_X_call_173 ?_
                refine q_X_131 hx hb hml hown hts hT hM (lz_0 hM) (c_X_tell l G τ m_152 ((f_P_outcome μ i_2).1) a2 a1 ((-10 : Int64) - (((f_P_outcome μ i_2).1).toInt64)) (hI)) ⟨Nat.le_of_ble_eq_true rfl, Nat.le_of_ble_eq_true rfl⟩ ⟨Nat.zero_le _, Nat.zero_le _⟩ (lv_room (Nat.le_of_ble_eq_true rfl)) hl.1 d_X_call_174 (fun H locs hM => ?_)
                obtain ⟨m_174, e_174⟩ : ∃ z : mMem, z = (f_X_tell m_152 ((f_P_outcome μ i_2).1) a2 a1 ((-10 : Int64) - (((f_P_outcome μ i_2).1).toInt64))).2 := ⟨_, rfl⟩
                rw [← e_174] at hM
                have e_f : f_X_call μ a1 a2 a3 = ((f_X_tell m_152 ((f_P_outcome μ i_2).1) a2 a1 ((-10 : Int64) - (((f_P_outcome μ i_2).1).toInt64))).1, m_174) := by
                  subst e_174 e_152
                  exact (oC_s ho_2).trans ((oC_s ho_9).trans ((if_pos c_34).trans ((if_pos c_66).trans ((if_neg c_101).trans ((if_pos c_112).trans ((if_neg c_159).trans rfl))))))
                rw [e_f]
                exact W.lret (v := (f_X_tell m_152 ((f_P_outcome μ i_2).1) a2 a1 ((-10 : Int64) - (((f_P_outcome μ i_2).1).toInt64))).1) hx hb hr (fun t ht hW => ⟨rfl, hM.end ht⟩) hM.2.2.1 d_X_call_177
            · skip
              refine lv_aload_n hx hb d_X_call_115 rfl (lv_at hl 4 rfl) ?_
              refine gf_X_22 hx hb hts hown hT hM (lz_0 hM) d_X_call_116 ?_
              refine lv_aload hx hb d_X_call_119 (lv_at hl 3 rfl) ?_
              refine gf_X_139 hx hb hts hown hT hM hv_2 d_X_call_121 ?_
              refine q_X_146 hx hb hml hown hts hT hM (lz_7 hM) (c_C_empty l G τ μ (μ.1 11 i_2 1)) ⟨Nat.le_of_ble_eq_true rfl, Nat.le_of_ble_eq_true rfl⟩ ⟨Nat.zero_le _, Nat.zero_le _⟩ (lv_room (Nat.le_of_ble_eq_true rfl)) hl.1 d_X_call_124 (fun H locs hM => ?_)
              obtain ⟨m_124, e_124⟩ : ∃ z : mMem, z = (f_C_empty μ (μ.1 11 i_2 1)) := ⟨_, rfl⟩
              rw [← e_124] at hM
              have hI : iX m_124 := by rw [e_124]; exact iX_C_empty hI
              refine lv_aload hx hb d_X_call_127 (lv_at hl 2 rfl) ?_
              refine gf_X_64 hx hb hts hown hT hM hv_9 d_X_call_129 ?_
              have hv_129 : τ.2 3 ((m_124.1 2 i_9 2).toNatClampNeg) := lz_3 hM hv_9
              refine lv_iload_n hx hb d_X_call_132 rfl (lv_at hl 5 rfl) ?_
              refine lv_iload_n hx hb d_X_call_133 rfl (lv_at hl 6 rfl) ?_
              refine lv_lload hx hb d_X_call_134 (lv_at hl 0 rfl) ?_
              refine q_X_150 hx hb hml hown hts hT hM hv_129 (c_B_queue l G τ m_124 ((m_124.1 2 i_9 2).toNatClampNeg) hv_129 a1 a2 (a3 + (f_C_sum μ (μ.1 11 i_2 1))) (hI)) ⟨Nat.le_of_ble_eq_true rfl, Nat.le_of_ble_eq_true rfl⟩ ⟨Nat.zero_le _, Nat.zero_le _⟩ (lv_room (Nat.le_of_ble_eq_true rfl)) hl.1 d_X_call_136 (fun H locs hM => ?_)
              obtain ⟨m_136, e_136⟩ : ∃ z : mMem, z = (f_B_queue m_124 ((m_124.1 2 i_9 2).toNatClampNeg) a1 a2 (a3 + (f_C_sum μ (μ.1 11 i_2 1)))) := ⟨_, rfl⟩
              rw [← e_136] at hM
              have hI : iX m_136 := by rw [e_136]; exact iX_B_queue hI
              refine lv_aload_n hx hb d_X_call_139 rfl (lv_at hl 4 rfl) ?_
              refine lv_iconst (v := (5 : Int32)) hx hb d_X_call_140 (by decide) ?_
              refine lv_iload_n hx hb d_X_call_141 rfl (lv_at hl 6 rfl) ?_
              refine lv_iload_n hx hb d_X_call_142 rfl (lv_at hl 5 rfl) ?_
              refine lv_ldc2 (v := (-5 : Int64)) hx hb hown (hts _ kw_constantLong_154__5) d_X_call_143 ?_
              refine q_X_131 hx hb hml hown hts hT hM (lz_0 hM) (c_X_tell l G τ m_136 (5 : Int32) a2 a1 (-5 : Int64) (hI)) ⟨Nat.le_of_ble_eq_true rfl, Nat.le_of_ble_eq_true rfl⟩ ⟨Nat.zero_le _, Nat.zero_le _⟩ (lv_room (Nat.le_of_ble_eq_true rfl)) hl.1 d_X_call_146 (fun H locs hM => ?_)
              obtain ⟨m_146, e_146⟩ : ∃ z : mMem, z = (f_X_tell m_136 (5 : Int32) a2 a1 (-5 : Int64)).2 := ⟨_, rfl⟩
              rw [← e_146] at hM
              have e_f : f_X_call μ a1 a2 a3 = ((f_X_tell m_136 (5 : Int32) a2 a1 (-5 : Int64)).1, m_146) := by
                subst e_146 e_136 e_124
                exact (oC_s ho_2).trans ((oC_s ho_9).trans ((if_pos c_34).trans ((if_pos c_66).trans ((if_neg c_101).trans ((if_neg c_112).trans rfl)))))
              rw [e_f]
              exact W.lret (v := (f_X_tell m_136 (5 : Int32) a2 a1 (-5 : Int64)).1) hx hb hr (fun t ht hW => ⟨rfl, hM.end ht⟩) hM.2.2.1 d_X_call_149
        · skip
          refine lv_aload_n hx hb d_X_call_69 rfl (lv_at hl 3 rfl) ?_
          refine lv_iconst (v := (4 : Int32)) hx hb d_X_call_70 (by decide) ?_
          refine lv_iload_n hx hb d_X_call_71 rfl (lv_at hl 5 rfl) ?_
          refine lv_iload_n hx hb d_X_call_72 rfl (lv_at hl 4 rfl) ?_
          refine lv_lload hx hb d_X_call_73 (lv_at hl 0 rfl) ?_
          refine q_X_131 hx hb hml hown hts hT hM (lz_0 hM) (c_X_tell l G τ μ (4 : Int32) a2 a1 (f_X_refusalOf μ i_2 ((μ.1 2 i_9 2).toNatClampNeg) a3) (hI)) ⟨Nat.le_of_ble_eq_true rfl, Nat.le_of_ble_eq_true rfl⟩ ⟨Nat.zero_le _, Nat.zero_le _⟩ (lv_room (Nat.le_of_ble_eq_true rfl)) hl.1 d_X_call_75 (fun H locs hM => ?_)
          obtain ⟨m_75, e_75⟩ : ∃ z : mMem, z = (f_X_tell μ (4 : Int32) a2 a1 (f_X_refusalOf μ i_2 ((μ.1 2 i_9 2).toNatClampNeg) a3)).2 := ⟨_, rfl⟩
          rw [← e_75] at hM
          have e_f : f_X_call μ a1 a2 a3 = ((f_X_tell μ (4 : Int32) a2 a1 (f_X_refusalOf μ i_2 ((μ.1 2 i_9 2).toNatClampNeg) a3)).1, m_75) := by
            subst e_75
            exact (oC_s ho_2).trans ((oC_s ho_9).trans ((if_pos c_34).trans ((if_neg c_66).trans rfl)))
          rw [e_f]
          exact W.lret (v := (f_X_tell μ (4 : Int32) a2 a1 (f_X_refusalOf μ i_2 ((μ.1 2 i_9 2).toNatClampNeg) a3)).1) hx hb hr (fun t ht hW => ⟨rfl, hM.end ht⟩) hM.2.2.1 d_X_call_78
      · skip
        refine lv_aload_n hx hb d_X_call_37 rfl (lv_at hl 2 rfl) ?_
        refine lv_iconst (v := (4 : Int32)) hx hb d_X_call_38 (by decide) ?_
        refine lv_iload_n hx hb d_X_call_39 rfl (lv_at hl 4 rfl) ?_
        refine lv_iload_n hx hb d_X_call_40 rfl (lv_at hl 3 rfl) ?_
        refine lv_ldc2 (v := (-1 : Int64)) hx hb hown (hts _ kw_constantLong_129__1) d_X_call_41 ?_
        refine q_X_131 hx hb hml hown hts hT hM (lz_0 hM) (c_X_tell l G τ μ (4 : Int32) a2 a1 (-1 : Int64) (hI)) ⟨Nat.le_of_ble_eq_true rfl, Nat.le_of_ble_eq_true rfl⟩ ⟨Nat.zero_le _, Nat.zero_le _⟩ (lv_room (Nat.le_of_ble_eq_true rfl)) hl.1 d_X_call_44 (fun H locs hM => ?_)
        obtain ⟨m_44, e_44⟩ : ∃ z : mMem, z = (f_X_tell μ (4 : Int32) a2 a1 (-1 : Int64)).2 := ⟨_, rfl⟩
        rw [← e_44] at hM
        have e_f : f_X_call μ a1 a2 a3 = ((f_X_tell μ (4 : Int32) a2 a1 (-1 : Int64)).1, m_44) := by
          subst e_44
          exact (oC_s ho_2).trans ((oC_s ho_9).trans ((if_neg c_34).trans rfl))
        rw [e_f]
        exact W.lret (v := (f_X_tell μ (4 : Int32) a2 a1 (-1 : Int64)).1) hx hb hr (fun t ht hW => ⟨rfl, hM.end ht⟩) hM.2.2.1 d_X_call_47
set_option maxHeartbeats 4000000 in
set_option maxRecDepth 100000 in
theorem c_X_houseAt (l : Launch) (G : mG) (τ : mTau) (μ : mMem) (a1 : Int32) : Met l y_X_houseAt w_X_houseAt r_X_houseAt (mPc G τ μ [.ref (τ.1 0 0), .int a1]) (mQo G τ 2 (f_X_houseAt μ a1) μ) 0 0 (fun q => G.2.2.1 ≤ q) := by
  refine Met.ofW (cc := b_X_houseAt) (maxL := 3) (ret := (some (.object "BuildCounter$Thing"))) (by decide) rfl ?_
  intro p e s m args below meth c s₁ B hml hv
  obtain ⟨rfl, hT, hM⟩ := hv
  have hx := B.exec
  have hb := B.bytes
  have hr := B.returns
  have hts : ∀ w ∈ gG, w.before _ s = true := fun w h => atoms_spec (ws := w_X_houseAt) B.pre w (List.mem_cons_of_mem _ h)
  have hown : s.vm.findClass R_X = some m.cls := findClass_of_methodNamed B.named
  have hlocks := B.notSynchronized
  have hl := lv_entry ([.ref (τ.1 0 0), .int a1]) (n := 3) (Nat.le_of_ble_eq_true rfl)
  rw [lg_entry_eq]
  skip
  generalize (lg_sl ([.ref (τ.1 0 0), .int a1]) ++ List.replicate (3 - (lg_sl ([.ref (τ.1 0 0), .int a1])).length) Slot.unset).toArray = ls at hl ⊢
  have hl : lv_has ls 3 [(0, .ref (τ.1 0 0)), (1, .int a1)] := hl
  refine lv_aload_n hx hb d_X_houseAt_0 rfl (lv_at hl 0 rfl) ?_
  refine lv_iload_n hx hb d_X_houseAt_1 rfl (lv_at hl 1 rfl) ?_
  refine q_X_53 hx hb hml hown hts hT hM (lz_0 hM) (c_X_thingAt l G τ μ a1) ⟨Nat.le_of_ble_eq_true rfl, Nat.le_of_ble_eq_true rfl⟩ ⟨Nat.zero_le _, Nat.zero_le _⟩ (lv_room (Nat.le_of_ble_eq_true rfl)) hl.1 d_X_houseAt_2 (fun H locs hM ho_2 => ?_) (fun H locs hM i_2 ho_2 hv_2 => ?_)
  · skip
    refine lv_astore_nN (lv' := [(2, .null), (0, .ref (τ.1 0 0)), (1, .int a1)]) hx hb d_X_houseAt_5 rfl hl (by decide) rfl (fun ls hl => ?_)
    refine lv_aload_nN hx hb d_X_houseAt_6 rfl (lv_at hl 0 rfl) ?_
    refine lv_ifnullN (tgt := 21) hx hb d_X_houseAt_7 (by decide) ?_
    refine lv_null hx hb d_X_houseAt_21 ?_
    have e_f : f_X_houseAt μ a1 = none := by
      exact (oC_n ho_2).trans rfl
    rw [e_f]
    exact W.aret hx hb hr (Or.inl ⟨_, rfl⟩) (Or.inl rfl) (fun t ht hW => ⟨rfl, (fun i h => by cases h), hM.end ht⟩) hM.2.2.1 d_X_houseAt_22
  · skip
    refine lv_astore_n (lv' := [(2, .ref (τ.1 2 i_2)), (0, .ref (τ.1 0 0)), (1, .int a1)]) hx hb d_X_houseAt_5 rfl hl (by decide) rfl (fun ls hl => ?_)
    refine lv_aload_n hx hb d_X_houseAt_6 rfl (lv_at hl 0 rfl) ?_
    refine lv_ifnull hx hb d_X_houseAt_7 ?_
    refine lv_aload_n hx hb d_X_houseAt_10 rfl (lv_at hl 0 rfl) ?_
    refine gf_X_57 hx hb hts hown hT hM hv_2 d_X_houseAt_11 ?_
    refine lv_if_ne (tgt := 21) hx hb d_X_houseAt_14 (by decide) (fun c_14 => ?_) (fun c_14 => ?_)
    · skip
      refine lv_null hx hb d_X_houseAt_21 ?_
      have e_f : f_X_houseAt μ a1 = none := by
        exact (oC_s ho_2).trans ((if_neg c_14).trans rfl)
      rw [e_f]
      exact W.aret hx hb hr (Or.inl ⟨_, rfl⟩) (Or.inl rfl) (fun t ht hW => ⟨rfl, (fun i h => by cases h), hM.end ht⟩) hM.2.2.1 d_X_houseAt_22
    · skip
      refine lv_aload_n hx hb d_X_houseAt_17 rfl (lv_at hl 0 rfl) ?_
      refine lv_goto (tgt := 22) hx hb d_X_houseAt_18 (by decide) ?_
      have e_f : f_X_houseAt μ a1 = some i_2 := by
        exact (oC_s ho_2).trans ((if_pos c_14).trans rfl)
      rw [e_f]
      exact W.aret hx hb hr (Or.inl ⟨_, rfl⟩) (Or.inr ⟨_, rfl⟩) (fun t ht hW => ⟨rfl, (fun i h => by cases h; exact hv_2), hM.end ht⟩) hM.2.2.1 d_X_houseAt_22
set_option maxHeartbeats 4000000 in
set_option maxRecDepth 100000 in
theorem c_B_begin (l : Launch) (G : mG) (τ : mTau) (μ : mMem) (i0 : Nat) (hl0 : τ.2 3 i0) (a1 : Int32) : Met l y_B_begin w_B_begin r_B_begin (mPc G τ μ [.ref (τ.1 3 i0), .int a1]) (mQ G τ none (f_B_begin μ i0 a1)) 0 0 (fun q => G.2.2.1 ≤ q) := by
  refine Met.ofW (cc := b_B_begin) (maxL := 2) (ret := none) (by decide) rfl ?_
  intro p e s m args below meth c s₁ B hml hv
  obtain ⟨rfl, hT, hM⟩ := hv
  have hx := B.exec
  have hb := B.bytes
  have hr := B.returns
  have hts : ∀ w ∈ gG, w.before _ s = true := fun w h => atoms_spec (ws := w_B_begin) B.pre w (List.mem_cons_of_mem _ h)
  have hown : s.vm.findClass R_B = some m.cls := findClass_of_methodNamed B.named
  have hlocks := B.notSynchronized
  have hl := lv_entry ([.ref (τ.1 3 i0), .int a1]) (n := 2) (Nat.le_of_ble_eq_true rfl)
  rw [lg_entry_eq]
  skip
  generalize (lg_sl ([.ref (τ.1 3 i0), .int a1]) ++ List.replicate (2 - (lg_sl ([.ref (τ.1 3 i0), .int a1])).length) Slot.unset).toArray = ls at hl ⊢
  have hl : lv_has ls 2 [(0, .ref (τ.1 3 i0)), (1, .int a1)] := hl
  refine lv_aload_n hx hb d_B_begin_0 rfl (lv_at hl 0 rfl) ?_
  refine lv_iload_n hx hb d_B_begin_1 rfl (lv_at hl 1 rfl) ?_
  refine pf_B_22 hx hb hts hown hT hM hl0 d_B_begin_2 (fun m_2 H locs e_2 hM => ?_)
  refine lv_aload_n hx hb d_B_begin_5 rfl (lv_at hl 0 rfl) ?_
  refine lv_iconst (v := (0 : Int32)) hx hb d_B_begin_6 (by decide) ?_
  refine pf_B_29 hx hb hts hown hT hM hl0 d_B_begin_7 (fun m_7 H locs e_7 hM => ?_)
  have e_f : f_B_begin μ i0 a1 = m_7 := by
    subst e_7 e_2
    exact rfl
  rw [e_f]
  exact W.vret hx hb hr (fun t ht hW => ⟨rfl, hM.end ht⟩) hM.2.2.1 d_B_begin_10
set_option maxHeartbeats 4000000 in
set_option maxRecDepth 100000 in
theorem c_X_build (l : Launch) (G : mG) (τ : mTau) (μ : mMem) (a1 : Int32) (a2 : Int32) : Met l y_X_build w_X_build r_X_build (mPc G τ μ [.ref (τ.1 0 0), .int a1, .int a2]) (mQ G τ (some (.int (f_X_build μ a1 a2).1)) (f_X_build μ a1 a2).2) 0 0 (fun q => G.2.2.1 ≤ q) := by
  refine Met.ofW (cc := b_X_build) (maxL := 4) (ret := (some .boolean)) (by decide) rfl ?_
  intro p e s m args below meth c s₁ B hml hv
  obtain ⟨rfl, hT, hM⟩ := hv
  have hx := B.exec
  have hb := B.bytes
  have hr := B.returns
  have hts : ∀ w ∈ gG, w.before _ s = true := fun w h => atoms_spec (ws := w_X_build) B.pre w (List.mem_cons_of_mem _ h)
  have hown : s.vm.findClass R_X = some m.cls := findClass_of_methodNamed B.named
  have hlocks := B.notSynchronized
  have hl := lv_entry ([.ref (τ.1 0 0), .int a1, .int a2]) (n := 4) (Nat.le_of_ble_eq_true rfl)
  rw [lg_entry_eq]
  skip
  generalize (lg_sl ([.ref (τ.1 0 0), .int a1, .int a2]) ++ List.replicate (4 - (lg_sl ([.ref (τ.1 0 0), .int a1, .int a2])).length) Slot.unset).toArray = ls at hl ⊢
  have hl : lv_has ls 4 [(0, .ref (τ.1 0 0)), (1, .int a1), (2, .int a2)] := hl
  refine lv_aload_n hx hb d_X_build_0 rfl (lv_at hl 0 rfl) ?_
  refine lv_iload_n hx hb d_X_build_1 rfl (lv_at hl 1 rfl) ?_
  refine q_X_166 hx hb hml hown hts hT hM (lz_0 hM) (c_X_houseAt l G τ μ a1) ⟨Nat.le_of_ble_eq_true rfl, Nat.le_of_ble_eq_true rfl⟩ ⟨Nat.zero_le _, Nat.zero_le _⟩ (lv_room (Nat.le_of_ble_eq_true rfl)) hl.1 d_X_build_2 (fun H locs hM ho_2 => ?_) (fun H locs hM i_2 ho_2 hv_2 => ?_)
  · skip
    refine lv_astore_nN (lv' := [(3, .null), (0, .ref (τ.1 0 0)), (1, .int a1), (2, .int a2)]) hx hb d_X_build_5 rfl hl (by decide) rfl (fun ls hl => ?_)
    refine lv_aload_nN hx hb d_X_build_6 rfl (lv_at hl 0 rfl) ?_
    refine lv_ifnullN (tgt := 31) hx hb d_X_build_7 (by decide) ?_
    refine lv_iconst (v := (0 : Int32)) hx hb d_X_build_31 (by decide) ?_
    have e_f : f_X_build μ a1 a2 = ((0 : Int32), μ) := by
      exact (oC_n ho_2).trans rfl
    rw [e_f]
    exact W.zret (v := (0 : Int32)) hx hb hr rfl (fun t ht hW => ⟨rfl, hM.end ht⟩) hM.2.2.1 d_X_build_32
  · skip
    refine lv_astore_n (lv' := [(3, .ref (τ.1 2 i_2)), (0, .ref (τ.1 0 0)), (1, .int a1), (2, .int a2)]) hx hb d_X_build_5 rfl hl (by decide) rfl (fun ls hl => ?_)
    refine lv_aload_n hx hb d_X_build_6 rfl (lv_at hl 0 rfl) ?_
    refine lv_ifnull hx hb d_X_build_7 ?_
    refine lv_aload_n hx hb d_X_build_10 rfl (lv_at hl 0 rfl) ?_
    refine gf_X_64 hx hb hts hown hT hM hv_2 d_X_build_11 ?_
    have hv_11 : τ.2 3 ((μ.1 2 i_2 2).toNatClampNeg) := lz_3 hM hv_2
    refine q_X_68 hx hb hml hown hts hT hM hv_11 (c_B_isOn l G τ μ ((μ.1 2 i_2 2).toNatClampNeg) hv_11) ⟨Nat.le_of_ble_eq_true rfl, Nat.le_of_ble_eq_true rfl⟩ ⟨Nat.zero_le _, Nat.zero_le _⟩ (lv_room (Nat.le_of_ble_eq_true rfl)) hl.1 d_X_build_14 (fun H locs hM => ?_)
    refine lv_if_ne (tgt := 31) hx hb d_X_build_17 (by decide) (fun c_17 => ?_) (fun c_17 => ?_)
    · skip
      refine lv_iconst (v := (0 : Int32)) hx hb d_X_build_31 (by decide) ?_
      have e_f : f_X_build μ a1 a2 = ((0 : Int32), μ) := by
        exact (oC_s ho_2).trans ((if_neg c_17).trans rfl)
      rw [e_f]
      exact W.zret (v := (0 : Int32)) hx hb hr rfl (fun t ht hW => ⟨rfl, hM.end ht⟩) hM.2.2.1 d_X_build_32
    · skip
      refine lv_iload_n hx hb d_X_build_20 rfl (lv_at hl 3 rfl) ?_
      refine lv_iconst (v := (1 : Int32)) hx hb d_X_build_21 (by decide) ?_
      refine lv_icmp_lt (tgt := 31) hx hb d_X_build_22 (by decide) (fun c_22 => ?_) (fun c_22 => ?_)
      · skip
        refine lv_iconst (v := (0 : Int32)) hx hb d_X_build_31 (by decide) ?_
        have e_f : f_X_build μ a1 a2 = ((0 : Int32), μ) := by
          exact (oC_s ho_2).trans ((if_pos c_17).trans ((if_pos c_22).trans rfl))
        rw [e_f]
        exact W.zret (v := (0 : Int32)) hx hb hr rfl (fun t ht hW => ⟨rfl, hM.end ht⟩) hM.2.2.1 d_X_build_32
      · skip
        refine lv_iload_n hx hb d_X_build_25 rfl (lv_at hl 3 rfl) ?_
        refine lv_bipush (v := (9 : Int32)) hx hb d_X_build_26 (by decide) ?_
        refine lv_icmp_le (tgt := 33) hx hb d_X_build_28 (by decide) (fun c_28 => ?_) (fun c_28 => ?_)
        · skip
          refine lv_aload_n hx hb d_X_build_33 rfl (lv_at hl 0 rfl) ?_
          refine gf_X_64 hx hb hts hown hT hM hv_2 d_X_build_34 ?_
          have hv_34 : τ.2 3 ((μ.1 2 i_2 2).toNatClampNeg) := lz_3 hM hv_2
          refine lv_iload_n hx hb d_X_build_37 rfl (lv_at hl 3 rfl) ?_
          refine q_X_169 hx hb hml hown hts hT hM hv_34 (c_B_begin l G τ μ ((μ.1 2 i_2 2).toNatClampNeg) hv_34 a2) ⟨Nat.le_of_ble_eq_true rfl, Nat.le_of_ble_eq_true rfl⟩ ⟨Nat.zero_le _, Nat.zero_le _⟩ (lv_room (Nat.le_of_ble_eq_true rfl)) hl.1 d_X_build_38 (fun H locs hM => ?_)
          obtain ⟨m_38, e_38⟩ : ∃ z : mMem, z = (f_B_begin μ ((μ.1 2 i_2 2).toNatClampNeg) a2) := ⟨_, rfl⟩
          rw [← e_38] at hM
          refine lv_iconst (v := (1 : Int32)) hx hb d_X_build_41 (by decide) ?_
          have e_f : f_X_build μ a1 a2 = ((1 : Int32), m_38) := by
            subst e_38
            exact (oC_s ho_2).trans ((if_pos c_17).trans ((if_neg c_22).trans ((if_pos c_28).trans rfl)))
          rw [e_f]
          exact W.zret (v := (1 : Int32)) hx hb hr rfl (fun t ht hW => ⟨rfl, hM.end ht⟩) hM.2.2.1 d_X_build_42
        · skip
          refine lv_iconst (v := (0 : Int32)) hx hb d_X_build_31 (by decide) ?_
          have e_f : f_X_build μ a1 a2 = ((0 : Int32), μ) := by
            exact (oC_s ho_2).trans ((if_pos c_17).trans ((if_neg c_22).trans ((if_neg c_28).trans rfl)))
          rw [e_f]
          exact W.zret (v := (0 : Int32)) hx hb hr rfl (fun t ht hW => ⟨rfl, hM.end ht⟩) hM.2.2.1 d_X_build_32
set_option maxHeartbeats 4000000 in
set_option maxRecDepth 100000 in
theorem c_B_nextTurn (l : Launch) (G : mG) (τ : mTau) (μ : mMem) (i0 : Nat) (hl0 : τ.2 3 i0) : Met l y_B_nextTurn w_B_nextTurn r_B_nextTurn (mPc G τ μ [.ref (τ.1 3 i0)]) (mQ G τ (some (.int (f_B_nextTurn μ i0).1)) (f_B_nextTurn μ i0).2) 0 0 (fun q => G.2.2.1 ≤ q) := by
  refine Met.ofW (cc := b_B_nextTurn) (maxL := 1) (ret := (some .int)) (by decide) rfl ?_
  intro p e s m args below meth c s₁ B hml hv
  obtain ⟨rfl, hT, hM⟩ := hv
  have hx := B.exec
  have hb := B.bytes
  have hr := B.returns
  have hts : ∀ w ∈ gG, w.before _ s = true := fun w h => atoms_spec (ws := w_B_nextTurn) B.pre w (List.mem_cons_of_mem _ h)
  have hown : s.vm.findClass R_B = some m.cls := findClass_of_methodNamed B.named
  have hlocks := B.notSynchronized
  have hl := lv_entry ([.ref (τ.1 3 i0)]) (n := 1) (Nat.le_of_ble_eq_true rfl)
  rw [lg_entry_eq]
  skip
  generalize (lg_sl ([.ref (τ.1 3 i0)]) ++ List.replicate (1 - (lg_sl ([.ref (τ.1 3 i0)])).length) Slot.unset).toArray = ls at hl ⊢
  have hl : lv_has ls 1 [(0, .ref (τ.1 3 i0))] := hl
  refine lv_aload_n hx hb d_B_nextTurn_0 rfl (lv_at hl 0 rfl) ?_
  refine lv_dup hx hb d_B_nextTurn_1 rfl ?_
  refine gf_B_22 hx hb hts hown hT hM hl0 d_B_nextTurn_2 ?_
  refine lv_iconst (v := (1 : Int32)) hx hb d_B_nextTurn_5 (by decide) ?_
  refine lv_isub hx hb d_B_nextTurn_6 ?_
  refine pf_B_22 hx hb hts hown hT hM hl0 d_B_nextTurn_7 (fun m_7 H locs e_7 hM => ?_)
  refine lv_aload_n hx hb d_B_nextTurn_10 rfl (lv_at hl 0 rfl) ?_
  refine lv_dup hx hb d_B_nextTurn_11 rfl ?_
  refine gf_B_29 hx hb hts hown hT hM hl0 d_B_nextTurn_12 ?_
  refine lv_iconst (v := (1 : Int32)) hx hb d_B_nextTurn_15 (by decide) ?_
  refine lv_iadd hx hb d_B_nextTurn_16 ?_
  refine pf_B_29 hx hb hts hown hT hM hl0 d_B_nextTurn_17 (fun m_17 H locs e_17 hM => ?_)
  refine lv_aload_n hx hb d_B_nextTurn_20 rfl (lv_at hl 0 rfl) ?_
  refine gf_B_29 hx hb hts hown hT hM hl0 d_B_nextTurn_21 ?_
  have e_f : f_B_nextTurn μ i0 = (m_17.1 3 i0 1, m_17) := by
    subst e_17 e_7
    exact rfl
  rw [e_f]
  exact W.iret (v := m_17.1 3 i0 1) hx hb hr (fun t ht hW => ⟨rfl, hM.end ht⟩) hM.2.2.1 d_B_nextTurn_24
set_option maxHeartbeats 4000000 in
set_option maxRecDepth 100000 in
theorem c_X_leastCallFor (l : Launch) (G : mG) (τ : mTau) (μ : mMem) (a1 : Int32) : Met l y_X_leastCallFor w_X_leastCallFor r_X_leastCallFor (mPc G τ μ [.ref (τ.1 0 0), .int a1]) (mQ G τ (some (.int (f_X_leastCallFor μ a1))) μ) 0 0 (fun q => G.2.2.1 ≤ q) := by
  refine Met.ofW (cc := b_X_leastCallFor) (maxL := 3) (ret := (some .int)) (by decide) rfl ?_
  intro p e s m args below meth c s₁ B hml hv
  obtain ⟨rfl, hT, hM⟩ := hv
  have hx := B.exec
  have hb := B.bytes
  have hr := B.returns
  have hts : ∀ w ∈ gG, w.before _ s = true := fun w h => atoms_spec (ws := w_X_leastCallFor) B.pre w (List.mem_cons_of_mem _ h)
  have hown : s.vm.findClass R_X = some m.cls := findClass_of_methodNamed B.named
  have hlocks := B.notSynchronized
  have loop_2 : ∀ (n : Nat) (x1 : Int32) (x2 : Int32) (μ1 : mMem) (H : Heap) (locs : List Loc) (ls : Array Slot), 0 ≤ x2.toInt → ((12 : Int) - x2.toInt).toNat < n → mw G τ μ1 H locs → lv_has ls 3 [(0, .ref (τ.1 0 0)), (1, .int x1), (2, .int x2)] → W p l e (headSpec (w_X_leastCallFor) (r_X_leastCallFor)).room s m ([.ref (τ.1 0 0), .int a1] : List Value).toArray below meth c H locs 0 0 (MQ below (mQ G τ (some (.int (f_X_leastCallFor_l2 n x1 x2 μ1))) μ1) ([.ref (τ.1 0 0), .int a1] : List Value).toArray s 0 0 (fun q => G.2.2.1 ≤ q)) (F0 m 2 ls []) := by
    intro n
    induction n with
    | zero => intro x1 x2 μ1 H locs ls  hp hn hM hl; exact absurd hn (Nat.not_lt_zero _)
    | succ n ih =>
      intro x1 x2 μ1 H locs ls  hp hn hM hl
      refine lv_iload_n hx hb d_X_leastCallFor_2 rfl (lv_at hl 2 rfl) ?_
      refine lv_bipush (v := (12 : Int32)) hx hb d_X_leastCallFor_3 (by decide) ?_
      refine lv_icmp_ge (tgt := 38) hx hb d_X_leastCallFor_5 (by decide) (fun c_5 => ?_) (fun c_5 => ?_)
      · skip
        refine lv_iconst (v := (-1 : Int32)) hx hb d_X_leastCallFor_38 (by decide) ?_
        have e_f : f_X_leastCallFor_l2 (n + 1) x1 x2 μ1 = (-1 : Int32) := by
          exact (if_pos c_5).trans rfl
        rw [e_f]
        exact W.iret (v := (-1 : Int32)) hx hb hr (fun t ht hW => ⟨rfl, hM.end ht⟩) hM.2.2.1 d_X_leastCallFor_39
      · skip
        refine lv_aload_n hx hb d_X_leastCallFor_8 rfl (lv_at hl 0 rfl) ?_
        refine gf_X_28 hx hb hts hown hT hM (lz_0 hM) d_X_leastCallFor_9 ?_
        refine lv_iload_n hx hb d_X_leastCallFor_12 rfl (lv_at hl 2 rfl) ?_
        refine al_10 hx hb hT hM (lz_10 hM) (vin 12 (by decide) (pos_lt hp) c_5) d_X_leastCallFor_13 (fun c_13 => ?_) (fun c_13 hv_13 => ?_)
        · skip
          refine lv_ifnullN (tgt := 32) hx hb d_X_leastCallFor_14 (by decide) ?_
          refine lv_iinc (v := x2 + (1 : Int32)) (lv' := [(2, .int (x2 + (1 : Int32))), (0, .ref (τ.1 0 0)), (1, .int x1)]) hx hb d_X_leastCallFor_32 hl (k := 2) rfl rfl (by decide) rfl (fun ls hl => ?_)
          refine lv_goto (tgt := 2) hx hb d_X_leastCallFor_35 (by decide) ?_
          have e_f : f_X_leastCallFor_l2 (n + 1) x1 x2 μ1 = f_X_leastCallFor_l2 n x1 (x2 + (1 : Int32)) μ1 := by
            exact (if_neg c_5).trans ((if_pos c_13).trans rfl)
          rw [e_f]
          exact ih x1 (x2 + (1 : Int32)) μ1 _ _ ls  (inc_pos hp c_5) (inc_ltk (by decide) c_5 hn) hM (lv_sub hl [1, 2, 0] rfl)
        · skip
          refine lv_ifnull hx hb d_X_leastCallFor_14 ?_
          refine lv_aload_n hx hb d_X_leastCallFor_17 rfl (lv_at hl 0 rfl) ?_
          refine gf_X_28 hx hb hts hown hT hM (lz_0 hM) d_X_leastCallFor_18 ?_
          refine lv_iload_n hx hb d_X_leastCallFor_21 rfl (lv_at hl 2 rfl) ?_
          refine al_10 hx hb hT hM (lz_10 hM) (vin 12 (by decide) (pos_lt hp) c_5) d_X_leastCallFor_22 (fun c_22 => ?_) (fun c_22 hv_22 => ?_)
          · exact absurd c_22 c_13
          · skip
            refine gf_X_128 hx hb hts hown hT hM hv_22 d_X_leastCallFor_23 ?_
            refine lv_iload_n hx hb d_X_leastCallFor_26 rfl (lv_at hl 1 rfl) ?_
            refine lv_icmp_ne (tgt := 32) hx hb d_X_leastCallFor_27 (by decide) (fun c_27 => ?_) (fun c_27 => ?_)
            · skip
              refine lv_iinc (v := x2 + (1 : Int32)) (lv' := [(2, .int (x2 + (1 : Int32))), (0, .ref (τ.1 0 0)), (1, .int x1)]) hx hb d_X_leastCallFor_32 hl (k := 2) rfl rfl (by decide) rfl (fun ls hl => ?_)
              refine lv_goto (tgt := 2) hx hb d_X_leastCallFor_35 (by decide) ?_
              have e_f : f_X_leastCallFor_l2 (n + 1) x1 x2 μ1 = f_X_leastCallFor_l2 n x1 (x2 + (1 : Int32)) μ1 := by
                exact (if_neg c_5).trans ((if_neg c_13).trans ((if_neg c_27).trans rfl))
              rw [e_f]
              exact ih x1 (x2 + (1 : Int32)) μ1 _ _ ls  (inc_pos hp c_5) (inc_ltk (by decide) c_5 hn) hM (lv_sub hl [1, 2, 0] rfl)
            · skip
              refine lv_iload_n hx hb d_X_leastCallFor_30 rfl (lv_at hl 2 rfl) ?_
              have e_f : f_X_leastCallFor_l2 (n + 1) x1 x2 μ1 = x2 := by
                exact (if_neg c_5).trans ((if_neg c_13).trans ((if_pos c_27).trans rfl))
              rw [e_f]
              exact W.iret (v := x2) hx hb hr (fun t ht hW => ⟨rfl, hM.end ht⟩) hM.2.2.1 d_X_leastCallFor_31
  have hl := lv_entry ([.ref (τ.1 0 0), .int a1]) (n := 3) (Nat.le_of_ble_eq_true rfl)
  rw [lg_entry_eq]
  skip
  generalize (lg_sl ([.ref (τ.1 0 0), .int a1]) ++ List.replicate (3 - (lg_sl ([.ref (τ.1 0 0), .int a1])).length) Slot.unset).toArray = ls at hl ⊢
  have hl : lv_has ls 3 [(0, .ref (τ.1 0 0)), (1, .int a1)] := hl
  refine lv_iconst (v := (0 : Int32)) hx hb d_X_leastCallFor_0 (by decide) ?_
  refine lv_istore_n (lv' := [(2, .int (0 : Int32)), (0, .ref (τ.1 0 0)), (1, .int a1)]) hx hb d_X_leastCallFor_1 rfl hl (by decide) rfl (fun ls hl => ?_)
  have e_f : f_X_leastCallFor μ a1 = f_X_leastCallFor_l2 64 a1 (0 : Int32) μ := by
    exact rfl
  rw [e_f]
  exact loop_2 64 a1 (0 : Int32) μ _ _ ls  (by decide) (by decide) hM (lv_sub hl [1, 2, 0] rfl)
set_option maxHeartbeats 4000000 in
set_option maxRecDepth 100000 in
theorem c_X_callInTurn (l : Launch) (G : mG) (τ : mTau) (μ : mMem) (o1 : Option Nat) (ho1 : ∀ i, o1 = some i → τ.2 2 i) (a2 : Int32) (a3 : Int32) (a4 : Int32) : Met l y_X_callInTurn w_X_callInTurn r_X_callInTurn (mPc G τ μ [va_rf (o1.map (τ.1 2)), .int a2, .int a3, .int a4]) (mQ G τ (some (.int (f_X_callInTurn μ o1 a2 a3 a4))) μ) 0 0 (fun q => G.2.2.1 ≤ q) := by
  refine Met.ofW (cc := b_X_callInTurn) (maxL := 4) (ret := (some .int)) (by decide) rfl ?_
  intro p e s m args below meth c s₁ B hml hv
  obtain ⟨rfl, hT, hM⟩ := hv
  have hx := B.exec
  have hb := B.bytes
  have hr := B.returns
  have hts : ∀ w ∈ gG, w.before _ s = true := fun w h => atoms_spec (ws := w_X_callInTurn) B.pre w (List.mem_cons_of_mem _ h)
  have hown : s.vm.findClass R_X = some m.cls := findClass_of_methodNamed B.named
  have hlocks := B.notSynchronized
  rcases o1 with _ | ko1
  · skip
    have hl := lv_entry ([.null, .int a2, .int a3, .int a4]) (n := 4) (Nat.le_of_ble_eq_true rfl)
    rw [lg_entry_eq]
    change W _ _ _ _ _ _ _ _ _ _ _ _ _ _ _ (F0 m 0 (lg_sl ([.null, .int a2, .int a3, .int a4]) ++ List.replicate (4 - (lg_sl ([.null, .int a2, .int a3, .int a4])).length) Slot.unset).toArray [])
    generalize (lg_sl ([.null, .int a2, .int a3, .int a4]) ++ List.replicate (4 - (lg_sl ([.null, .int a2, .int a3, .int a4])).length) Slot.unset).toArray = ls at hl ⊢
    have hl : lv_has ls 4 [(0, .null), (1, .int a2), (2, .int a3), (3, .int a4)] := hl
    refine lv_aload_nN hx hb d_X_callInTurn_0 rfl (lv_at hl 0 rfl) ?_
    refine lv_ifnullN (tgt := 12) hx hb d_X_callInTurn_1 (by decide) ?_
    refine lv_iconst (v := (-1 : Int32)) hx hb d_X_callInTurn_12 (by decide) ?_
    have e_f : f_X_callInTurn μ none a2 a3 a4 = (-1 : Int32) := by
      exact (oC_n rfl).trans rfl
    rw [e_f]
    exact W.iret (v := (-1 : Int32)) hx hb hr (fun t ht hW => ⟨rfl, hM.end ht⟩) hM.2.2.1 d_X_callInTurn_13
  · skip
    have hl := lv_entry ([.ref (τ.1 2 ko1), .int a2, .int a3, .int a4]) (n := 4) (Nat.le_of_ble_eq_true rfl)
    rw [lg_entry_eq]
    change W _ _ _ _ _ _ _ _ _ _ _ _ _ _ _ (F0 m 0 (lg_sl ([.ref (τ.1 2 ko1), .int a2, .int a3, .int a4]) ++ List.replicate (4 - (lg_sl ([.ref (τ.1 2 ko1), .int a2, .int a3, .int a4])).length) Slot.unset).toArray [])
    generalize (lg_sl ([.ref (τ.1 2 ko1), .int a2, .int a3, .int a4]) ++ List.replicate (4 - (lg_sl ([.ref (τ.1 2 ko1), .int a2, .int a3, .int a4])).length) Slot.unset).toArray = ls at hl ⊢
    have hl : lv_has ls 4 [(0, .ref (τ.1 2 ko1)), (1, .int a2), (2, .int a3), (3, .int a4)] := hl
    refine lv_aload_n hx hb d_X_callInTurn_0 rfl (lv_at hl 0 rfl) ?_
    refine lv_ifnull hx hb d_X_callInTurn_1 ?_
    refine lv_aload_n hx hb d_X_callInTurn_4 rfl (lv_at hl 0 rfl) ?_
    refine gf_X_72 hx hb hts hown hT hM (ho1 _ rfl) d_X_callInTurn_5 ?_
    refine lv_iload_n hx hb d_X_callInTurn_8 rfl (lv_at hl 1 rfl) ?_
    refine lv_icmp_eq (tgt := 14) hx hb d_X_callInTurn_9 (by decide) (fun c_9 => ?_) (fun c_9 => ?_)
    · skip
      refine lv_aload_n hx hb d_X_callInTurn_14 rfl (lv_at hl 0 rfl) ?_
      refine gf_X_57 hx hb hts hown hT hM (ho1 _ rfl) d_X_callInTurn_15 ?_
      refine lv_iconst (v := (4 : Int32)) hx hb d_X_callInTurn_18 (by decide) ?_
      refine lv_icmp_ne (tgt := 24) hx hb d_X_callInTurn_19 (by decide) (fun c_19 => ?_) (fun c_19 => ?_)
      · skip
        refine lv_aload_n hx hb d_X_callInTurn_24 rfl (lv_at hl 0 rfl) ?_
        refine gf_X_57 hx hb hts hown hT hM (ho1 _ rfl) d_X_callInTurn_25 ?_
        refine lv_iconst (v := (5 : Int32)) hx hb d_X_callInTurn_28 (by decide) ?_
        refine lv_icmp_ne (tgt := 36) hx hb d_X_callInTurn_29 (by decide) (fun c_29 => ?_) (fun c_29 => ?_)
        · skip
          refine lv_iconst (v := (-1 : Int32)) hx hb d_X_callInTurn_36 (by decide) ?_
          have e_f : f_X_callInTurn μ (some ko1) a2 a3 a4 = (-1 : Int32) := by
            exact (oC_s rfl).trans ((if_pos c_9).trans ((if_neg c_19).trans ((if_neg c_29).trans rfl)))
          rw [e_f]
          exact W.iret (v := (-1 : Int32)) hx hb hr (fun t ht hW => ⟨rfl, hM.end ht⟩) hM.2.2.1 d_X_callInTurn_37
        · skip
          refine lv_iload_n hx hb d_X_callInTurn_32 rfl (lv_at hl 3 rfl) ?_
          refine lv_goto (tgt := 37) hx hb d_X_callInTurn_33 (by decide) ?_
          have e_f : f_X_callInTurn μ (some ko1) a2 a3 a4 = a4 := by
            exact (oC_s rfl).trans ((if_pos c_9).trans ((if_neg c_19).trans ((if_pos c_29).trans rfl)))
          rw [e_f]
          exact W.iret (v := a4) hx hb hr (fun t ht hW => ⟨rfl, hM.end ht⟩) hM.2.2.1 d_X_callInTurn_37
      · skip
        refine lv_iload_n hx hb d_X_callInTurn_22 rfl (lv_at hl 2 rfl) ?_
        have e_f : f_X_callInTurn μ (some ko1) a2 a3 a4 = a3 := by
          exact (oC_s rfl).trans ((if_pos c_9).trans ((if_pos c_19).trans rfl))
        rw [e_f]
        exact W.iret (v := a3) hx hb hr (fun t ht hW => ⟨rfl, hM.end ht⟩) hM.2.2.1 d_X_callInTurn_23
    · skip
      refine lv_iconst (v := (-1 : Int32)) hx hb d_X_callInTurn_12 (by decide) ?_
      have e_f : f_X_callInTurn μ (some ko1) a2 a3 a4 = (-1 : Int32) := by
        exact (oC_s rfl).trans ((if_neg c_9).trans rfl)
      rw [e_f]
      exact W.iret (v := (-1 : Int32)) hx hb hr (fun t ht hW => ⟨rfl, hM.end ht⟩) hM.2.2.1 d_X_callInTurn_13
set_option maxHeartbeats 4000000 in
set_option maxRecDepth 100000 in
theorem c_X_goes (l : Launch) (G : mG) (τ : mTau) (μ : mMem) (a1 : Int32) (a2 : Int32) (a3 : Int64) (hI : iX μ) : Met l y_X_goes w_X_goes r_X_goes (mPc G τ μ [.ref (τ.1 0 0), .int a1, .int a2, .long a3]) (mQ G τ (some (.int (f_X_goes μ a1 a2 a3).1)) (f_X_goes μ a1 a2 a3).2) 0 0 (fun q => G.2.2.1 ≤ q) := by
  refine Met.ofW (cc := b_X_goes) (maxL := 7) (ret := (some .boolean)) (by decide) rfl ?_
  intro p e s m args below meth c s₁ B hml hv
  obtain ⟨rfl, hT, hM⟩ := hv
  have hx := B.exec
  have hb := B.bytes
  have hr := B.returns
  have hts : ∀ w ∈ gG, w.before _ s = true := fun w h => atoms_spec (ws := w_X_goes) B.pre w (List.mem_cons_of_mem _ h)
  have hown : s.vm.findClass R_X = some m.cls := findClass_of_methodNamed B.named
  have hlocks := B.notSynchronized
  have hl := lv_entry ([.ref (τ.1 0 0), .int a1, .int a2, .long a3]) (n := 7) (Nat.le_of_ble_eq_true rfl)
  rw [lg_entry_eq]
  skip
  generalize (lg_sl ([.ref (τ.1 0 0), .int a1, .int a2, .long a3]) ++ List.replicate (7 - (lg_sl ([.ref (τ.1 0 0), .int a1, .int a2, .long a3])).length) Slot.unset).toArray = ls at hl ⊢
  have hl : lv_has ls 7 [(0, .ref (τ.1 0 0)), (1, .int a1), (2, .int a2), (3, .long a3)] := hl
  refine lv_aload_n hx hb d_X_goes_0 rfl (lv_at hl 0 rfl) ?_
  refine lv_iload_n hx hb d_X_goes_1 rfl (lv_at hl 1 rfl) ?_
  refine q_X_111 hx hb hml hown hts hT hM (lz_0 hM) (c_X_partAt l G τ μ a1) ⟨Nat.le_of_ble_eq_true rfl, Nat.le_of_ble_eq_true rfl⟩ ⟨Nat.zero_le _, Nat.zero_le _⟩ (lv_room (Nat.le_of_ble_eq_true rfl)) hl.1 d_X_goes_2 (fun H locs hM ho_2 => ?_) (fun H locs hM i_2 ho_2 hv_2 => ?_)
  · skip
    refine lv_astoreN (lv' := [(5, .null), (0, .ref (τ.1 0 0)), (1, .int a1), (2, .int a2), (3, .long a3)]) hx hb d_X_goes_5 hl (by decide) rfl (fun ls hl => ?_)
    refine lv_aloadN hx hb d_X_goes_7 (lv_at hl 0 rfl) ?_
    refine lv_ifnonnullN hx hb d_X_goes_9 ?_
    refine lv_iconst (v := (0 : Int32)) hx hb d_X_goes_12 (by decide) ?_
    have e_f : f_X_goes μ a1 a2 a3 = ((0 : Int32), μ) := by
      exact (oC_n ho_2).trans rfl
    rw [e_f]
    exact W.zret (v := (0 : Int32)) hx hb hr rfl (fun t ht hW => ⟨rfl, hM.end ht⟩) hM.2.2.1 d_X_goes_13
  · skip
    refine lv_astore (lv' := [(5, .ref (τ.1 11 i_2)), (0, .ref (τ.1 0 0)), (1, .int a1), (2, .int a2), (3, .long a3)]) hx hb d_X_goes_5 hl (by decide) rfl (fun ls hl => ?_)
    refine lv_aload hx hb d_X_goes_7 (lv_at hl 0 rfl) ?_
    refine lv_ifnonnull (tgt := 14) hx hb d_X_goes_9 (by decide) ?_
    refine lv_aload hx hb d_X_goes_14 (lv_at hl 0 rfl) ?_
    refine q_X_156 hx hb hml hown hts hT hM hv_2 (c_P_outcome l G τ μ i_2 hv_2) ⟨Nat.le_of_ble_eq_true rfl, Nat.le_of_ble_eq_true rfl⟩ ⟨Nat.zero_le _, Nat.zero_le _⟩ (lv_room (Nat.le_of_ble_eq_true rfl)) hl.1 d_X_goes_16 (fun H locs hM => ?_)
    obtain ⟨m_16, e_16⟩ : ∃ z : mMem, z = (f_P_outcome μ i_2).2 := ⟨_, rfl⟩
    rw [← e_16] at hM
    have hI : iX m_16 := by rw [e_16]; exact iX_P_outcome hI
    refine lv_istore (lv' := [(6, .int ((f_P_outcome μ i_2).1)), (5, .ref (τ.1 11 i_2)), (0, .ref (τ.1 0 0)), (1, .int a1), (2, .int a2), (3, .long a3)]) hx hb d_X_goes_19 hl (by decide) rfl (fun ls hl => ?_)
    refine lv_aload_n hx hb d_X_goes_21 rfl (lv_at hl 2 rfl) ?_
    refine lv_iload hx hb d_X_goes_22 (lv_at hl 0 rfl) ?_
    refine lv_iload_n hx hb d_X_goes_24 rfl (lv_at hl 4 rfl) ?_
    refine lv_iload_n hx hb d_X_goes_25 rfl (lv_at hl 3 rfl) ?_
    refine lv_iload hx hb d_X_goes_26 (lv_at hl 0 rfl) ?_
    refine lv_if_ne (tgt := 40) hx hb d_X_goes_28 (by decide) (fun c_28 => ?_) (fun c_28 => ?_)
    · skip
      refine lv_lconst (v := (0 : Int64)) hx hb d_X_goes_40 (by decide) ?_
      refine q_X_131 hx hb hml hown hts hT hM (lz_0 hM) (c_X_tell l G τ m_16 ((f_P_outcome μ i_2).1) a2 a1 (0 : Int64) (hI)) ⟨Nat.le_of_ble_eq_true rfl, Nat.le_of_ble_eq_true rfl⟩ ⟨Nat.zero_le _, Nat.zero_le _⟩ (lv_room (Nat.le_of_ble_eq_true rfl)) hl.1 d_X_goes_41 (fun H locs hM => ?_)
      obtain ⟨m_41, e_41⟩ : ∃ z : mMem, z = (f_X_tell m_16 ((f_P_outcome μ i_2).1) a2 a1 (0 : Int64)).2 := ⟨_, rfl⟩
      rw [← e_41] at hM
      refine lv_pop2_2 hx hb d_X_goes_44 rfl ?_
      refine lv_iload hx hb d_X_goes_45 (lv_at hl 0 rfl) ?_
      refine lv_if_ne (tgt := 54) hx hb d_X_goes_47 (by decide) (fun c_47 => ?_) (fun c_47 => ?_)
      · skip
        refine lv_iconst (v := (0 : Int32)) hx hb d_X_goes_54 (by decide) ?_
        have e_f : f_X_goes μ a1 a2 a3 = ((0 : Int32), m_41) := by
          subst e_41 e_16
          exact (oC_s ho_2).trans ((if_neg c_28).trans rfl)
        rw [e_f]
        exact W.zret (v := (0 : Int32)) hx hb hr rfl (fun t ht hW => ⟨rfl, hM.end ht⟩) hM.2.2.1 d_X_goes_55
      · exact absurd c_47 c_28
    · skip
      refine lv_aload hx hb d_X_goes_31 (lv_at hl 1 rfl) ?_
      refine lv_lload_n hx hb d_X_goes_33 rfl (lv_at hl 5 rfl) ?_
      refine q_X_162 hx hb hml hown hts hT hM hv_2 (c_P_reply l G τ m_16 i_2 hv_2 a3 (hI)) ⟨Nat.le_of_ble_eq_true rfl, Nat.le_of_ble_eq_true rfl⟩ ⟨Nat.zero_le _, Nat.zero_le _⟩ (lv_room (Nat.le_of_ble_eq_true rfl)) hl.1 d_X_goes_34 (fun H locs hM => ?_)
      obtain ⟨m_34, e_34⟩ : ∃ z : mMem, z = (f_P_reply m_16 i_2 a3).2 := ⟨_, rfl⟩
      rw [← e_34] at hM
      have hI : iX m_34 := by rw [e_34]; exact iX_P_reply hI
      refine lv_goto (tgt := 41) hx hb d_X_goes_37 (by decide) ?_
      refine q_X_131 hx hb hml hown hts hT hM (lz_0 hM) (c_X_tell l G τ m_34 ((f_P_outcome μ i_2).1) a2 a1 ((f_P_reply m_16 i_2 a3).1) (hI)) ⟨Nat.le_of_ble_eq_true rfl, Nat.le_of_ble_eq_true rfl⟩ ⟨Nat.zero_le _, Nat.zero_le _⟩ (lv_room (Nat.le_of_ble_eq_true rfl)) hl.1 d_X_goes_41 (fun H locs hM => ?_)
      obtain ⟨m_41, e_41⟩ : ∃ z : mMem, z = (f_X_tell m_34 ((f_P_outcome μ i_2).1) a2 a1 ((f_P_reply m_16 i_2 a3).1)).2 := ⟨_, rfl⟩
      rw [← e_41] at hM
      refine lv_pop2_2 hx hb d_X_goes_44 rfl ?_
      refine lv_iload hx hb d_X_goes_45 (lv_at hl 0 rfl) ?_
      refine lv_if_ne (tgt := 54) hx hb d_X_goes_47 (by decide) (fun c_47 => ?_) (fun c_47 => ?_)
      · exact absurd c_28 c_47
      · skip
        refine lv_iconst (v := (1 : Int32)) hx hb d_X_goes_50 (by decide) ?_
        refine lv_goto (tgt := 55) hx hb d_X_goes_51 (by decide) ?_
        have e_f : f_X_goes μ a1 a2 a3 = ((1 : Int32), m_41) := by
          subst e_41 e_34 e_16
          exact (oC_s ho_2).trans ((if_pos c_28).trans rfl)
        rw [e_f]
        exact W.zret (v := (1 : Int32)) hx hb hr rfl (fun t ht hW => ⟨rfl, hM.end ht⟩) hM.2.2.1 d_X_goes_55
set_option maxHeartbeats 4000000 in
set_option maxRecDepth 100000 in
theorem c_X_letWaitingGo (l : Launch) (G : mG) (τ : mTau) (μ : mMem) (i1 : Nat) (hi1 : τ.2 3 i1) (hI : iX μ) : Met l y_X_letWaitingGo w_X_letWaitingGo r_X_letWaitingGo (mPc G τ μ [.ref (τ.1 0 0), .ref (τ.1 3 i1)]) (mQ G τ none (f_X_letWaitingGo μ i1)) 0 0 (fun q => G.2.2.1 ≤ q) := by
  refine Met.ofW (cc := b_X_letWaitingGo) (maxL := 3) (ret := none) (by decide) rfl ?_
  intro p e s m args below meth c s₁ B hml hv
  obtain ⟨rfl, hT, hM⟩ := hv
  have hx := B.exec
  have hb := B.bytes
  have hr := B.returns
  have hts : ∀ w ∈ gG, w.before _ s = true := fun w h => atoms_spec (ws := w_X_letWaitingGo) B.pre w (List.mem_cons_of_mem _ h)
  have hown : s.vm.findClass R_X = some m.cls := findClass_of_methodNamed B.named
  have hlocks := B.notSynchronized
  have loop_2 : ∀ (n : Nat) (j1 : Nat) (x2 : Int32) (μ1 : mMem) (H : Heap) (locs : List Loc) (ls : Array Slot), (hj1 : τ.2 3 j1) → iX μ1 → 0 ≤ x2.toInt → ((6 : Int) - x2.toInt).toNat < n → mw G τ μ1 H locs → lv_has ls 3 [(0, .ref (τ.1 0 0)), (1, .ref (τ.1 3 j1)), (2, .int x2)] → W p l e (headSpec (w_X_letWaitingGo) (r_X_letWaitingGo)).room s m ([.ref (τ.1 0 0), .ref (τ.1 3 i1)] : List Value).toArray below meth c H locs 0 0 (MQ below (mQ G τ none (f_X_letWaitingGo_l2 n j1 x2 μ1)) ([.ref (τ.1 0 0), .ref (τ.1 3 i1)] : List Value).toArray s 0 0 (fun q => G.2.2.1 ≤ q)) (F0 m 2 ls []) := by
    intro n
    induction n with
    | zero => intro j1 x2 μ1 H locs ls hj1 hI hp hn hM hl; exact absurd hn (Nat.not_lt_zero _)
    | succ n ih =>
      intro j1 x2 μ1 H locs ls hj1 hI hp hn hM hl
      refine lv_iload_n hx hb d_X_letWaitingGo_2 rfl (lv_at hl 2 rfl) ?_
      refine lv_aload_n hx hb d_X_letWaitingGo_3 rfl (lv_at hl 1 rfl) ?_
      refine gf_X_192 hx hb hts hown hT hM hj1 d_X_letWaitingGo_4 ?_
      refine lv_icmp_ge (tgt := 45) hx hb d_X_letWaitingGo_7 (by decide) (fun c_7 => ?_) (fun c_7 => ?_)
      · skip
        refine lv_aload_n hx hb d_X_letWaitingGo_45 rfl (lv_at hl 1 rfl) ?_
        refine lv_iconst (v := (0 : Int32)) hx hb d_X_letWaitingGo_46 (by decide) ?_
        refine pf_X_192 hx hb hts hown hT hM hj1 d_X_letWaitingGo_47 (fun m_47 H locs e_47 hM => ?_)
        have e_f : f_X_letWaitingGo_l2 (n + 1) j1 x2 μ1 = m_47 := by
          subst e_47
          exact (if_pos c_7).trans rfl
        rw [e_f]
        exact W.vret hx hb hr (fun t ht hW => ⟨rfl, hM.end ht⟩) hM.2.2.1 d_X_letWaitingGo_50
      · skip
        refine lv_iload_n hx hb d_X_letWaitingGo_10 rfl (lv_at hl 2 rfl) ?_
        refine lv_bipush (v := (6 : Int32)) hx hb d_X_letWaitingGo_11 (by decide) ?_
        refine lv_icmp_ge (tgt := 45) hx hb d_X_letWaitingGo_13 (by decide) (fun c_13 => ?_) (fun c_13 => ?_)
        · skip
          refine lv_aload_n hx hb d_X_letWaitingGo_45 rfl (lv_at hl 1 rfl) ?_
          refine lv_iconst (v := (0 : Int32)) hx hb d_X_letWaitingGo_46 (by decide) ?_
          refine pf_X_192 hx hb hts hown hT hM hj1 d_X_letWaitingGo_47 (fun m_47 H locs e_47 hM => ?_)
          have e_f : f_X_letWaitingGo_l2 (n + 1) j1 x2 μ1 = m_47 := by
            subst e_47
            exact (if_neg c_7).trans ((if_pos c_13).trans rfl)
          rw [e_f]
          exact W.vret hx hb hr (fun t ht hW => ⟨rfl, hM.end ht⟩) hM.2.2.1 d_X_letWaitingGo_50
        · skip
          refine lv_aload_n hx hb d_X_letWaitingGo_16 rfl (lv_at hl 0 rfl) ?_
          refine lv_aload_n hx hb d_X_letWaitingGo_17 rfl (lv_at hl 1 rfl) ?_
          refine gf_X_248 hx hb hts hown hT hM hj1 d_X_letWaitingGo_18 ?_
          have hv_18 : τ.2 4 j1 := lz_4 hM hj1
          refine lv_iload_n hx hb d_X_letWaitingGo_21 rfl (lv_at hl 2 rfl) ?_
          refine al_4 hx hb hT hM hv_18 (vin 6 (by decide) (pos_lt hp) c_13) d_X_letWaitingGo_22 ?_
          refine lv_aload_n hx hb d_X_letWaitingGo_23 rfl (lv_at hl 1 rfl) ?_
          refine gf_X_249 hx hb hts hown hT hM hj1 d_X_letWaitingGo_24 ?_
          have hv_24 : τ.2 5 j1 := lz_5 hM hj1
          refine lv_iload_n hx hb d_X_letWaitingGo_27 rfl (lv_at hl 2 rfl) ?_
          refine al_5 hx hb hT hM hv_24 (vin 6 (by decide) (pos_lt hp) c_13) d_X_letWaitingGo_28 ?_
          refine lv_aload_n hx hb d_X_letWaitingGo_29 rfl (lv_at hl 1 rfl) ?_
          refine gf_X_250 hx hb hts hown hT hM hj1 d_X_letWaitingGo_30 ?_
          have hv_30 : τ.2 6 j1 := lz_6 hM hj1
          refine lv_iload_n hx hb d_X_letWaitingGo_33 rfl (lv_at hl 2 rfl) ?_
          refine al_6 hx hb hT hM hv_30 (vin 6 (by decide) (pos_lt hp) c_13) d_X_letWaitingGo_34 ?_
          refine q_X_181 hx hb hml hown hts hT hM (lz_0 hM) (c_X_goes l G τ μ1 (μ1.1 4 j1 x2.toNatClampNeg) (μ1.1 5 j1 x2.toNatClampNeg) (μ1.2 6 j1 x2.toNatClampNeg) (hI)) ⟨Nat.le_of_ble_eq_true rfl, Nat.le_of_ble_eq_true rfl⟩ ⟨Nat.zero_le _, Nat.zero_le _⟩ (lv_room (Nat.le_of_ble_eq_true rfl)) hl.1 d_X_letWaitingGo_35 (fun H locs hM => ?_)
          obtain ⟨m_35, e_35⟩ : ∃ z : mMem, z = (f_X_goes μ1 (μ1.1 4 j1 x2.toNatClampNeg) (μ1.1 5 j1 x2.toNatClampNeg) (μ1.2 6 j1 x2.toNatClampNeg)).2 := ⟨_, rfl⟩
          rw [← e_35] at hM
          have hI : iX m_35 := by rw [e_35]; exact iX_X_goes hI
          refine lv_pop hx hb d_X_letWaitingGo_38 rfl ?_
          refine lv_iinc (v := x2 + (1 : Int32)) (lv' := [(2, .int (x2 + (1 : Int32))), (0, .ref (τ.1 0 0)), (1, .ref (τ.1 3 j1))]) hx hb d_X_letWaitingGo_39 hl (k := 2) rfl rfl (by decide) rfl (fun ls hl => ?_)
          refine lv_goto (tgt := 2) hx hb d_X_letWaitingGo_42 (by decide) ?_
          have e_f : f_X_letWaitingGo_l2 (n + 1) j1 x2 μ1 = f_X_letWaitingGo_l2 n j1 (x2 + (1 : Int32)) m_35 := by
            subst e_35
            exact (if_neg c_7).trans ((if_neg c_13).trans rfl)
          rw [e_f]
          exact ih j1 (x2 + (1 : Int32)) m_35 _ _ ls hj1 (hI) (inc_pos hp c_13) (inc_ltk (by decide) c_13 hn) hM (lv_sub hl [1, 2, 0] rfl)
  have hl := lv_entry ([.ref (τ.1 0 0), .ref (τ.1 3 i1)]) (n := 3) (Nat.le_of_ble_eq_true rfl)
  rw [lg_entry_eq]
  skip
  generalize (lg_sl ([.ref (τ.1 0 0), .ref (τ.1 3 i1)]) ++ List.replicate (3 - (lg_sl ([.ref (τ.1 0 0), .ref (τ.1 3 i1)])).length) Slot.unset).toArray = ls at hl ⊢
  have hl : lv_has ls 3 [(0, .ref (τ.1 0 0)), (1, .ref (τ.1 3 i1))] := hl
  refine lv_iconst (v := (0 : Int32)) hx hb d_X_letWaitingGo_0 (by decide) ?_
  refine lv_istore_n (lv' := [(2, .int (0 : Int32)), (0, .ref (τ.1 0 0)), (1, .ref (τ.1 3 i1))]) hx hb d_X_letWaitingGo_1 rfl hl (by decide) rfl (fun ls hl => ?_)
  have e_f : f_X_letWaitingGo μ i1 = f_X_letWaitingGo_l2 64 i1 (0 : Int32) μ := by
    exact rfl
  rw [e_f]
  exact loop_2 64 i1 (0 : Int32) μ _ _ ls hi1 (hI) (by decide) (by decide) hM (lv_sub hl [1, 2, 0] rfl)
set_option maxHeartbeats 4000000 in
set_option maxRecDepth 100000 in
theorem c_X_turn (l : Launch) (G : mG) (τ : mTau) (μ : mMem) (a1 : Int32) (hI : iX μ) : Met l y_X_turn w_X_turn r_X_turn (mPc G τ μ [.ref (τ.1 0 0), .int a1]) (mQ G τ (some (.int (f_X_turn μ a1).1)) (f_X_turn μ a1).2) 0 0 (fun q => G.2.2.1 ≤ q) := by
  refine Met.ofW (cc := b_X_turn) (maxL := 9) (ret := (some .int)) (by decide) rfl ?_
  intro p e s m args below meth c s₁ B hml hv
  obtain ⟨rfl, hT, hM⟩ := hv
  have hx := B.exec
  have hb := B.bytes
  have hr := B.returns
  have hts : ∀ w ∈ gG, w.before _ s = true := fun w h => atoms_spec (ws := w_X_turn) B.pre w (List.mem_cons_of_mem _ h)
  have hown : s.vm.findClass R_X = some m.cls := findClass_of_methodNamed B.named
  have hlocks := B.notSynchronized
  have loop_52 : ∀ (n : Nat) (x1 : Int32) (j2 : Nat) (x3 : Int32) (x4 : Int32) (x5 : Int32) (x6 : Int32) (x7 : Int32) (μ1 : mMem) (H : Heap) (locs : List Loc) (ls : Array Slot), (hj2 : τ.2 2 j2) → iX μ1 → 0 ≤ x7.toInt → ((μ1.1 0 0 1).toInt - x7.toInt).toNat < n → mw G τ μ1 H locs → lv_has ls 9 [(0, .ref (τ.1 0 0)), (1, .int x1), (2, .ref (τ.1 2 j2)), (3, .int x3), (4, .int x4), (5, .int x5), (6, .int x6), (7, .int x7)] → W p l e (headSpec (w_X_turn) (r_X_turn)).room s m ([.ref (τ.1 0 0), .int a1] : List Value).toArray below meth c H locs 0 0 (MQ below (mQ G τ (some (.int (f_X_turn_l52 n x1 j2 x3 x4 x5 x6 x7 μ1).1)) (f_X_turn_l52 n x1 j2 x3 x4 x5 x6 x7 μ1).2) ([.ref (τ.1 0 0), .int a1] : List Value).toArray s 0 0 (fun q => G.2.2.1 ≤ q)) (F0 m 52 ls []) := by
    intro n
    induction n with
    | zero => intro x1 j2 x3 x4 x5 x6 x7 μ1 H locs ls hj2 hI hp hn hM hl; exact absurd hn (Nat.not_lt_zero _)
    | succ n ih =>
      intro x1 j2 x3 x4 x5 x6 x7 μ1 H locs ls hj2 hI hp hn hM hl
      refine lv_iload hx hb d_X_turn_52 (lv_at hl 7 rfl) ?_
      refine lv_aload_n hx hb d_X_turn_54 rfl (lv_at hl 0 rfl) ?_
      refine gf_X_15 hx hb hts hown hT hM (lz_0 hM) d_X_turn_55 ?_
      refine lv_icmp_ge (tgt := 100) hx hb d_X_turn_58 (by decide) (fun c_58 => ?_) (fun c_58 => ?_)
      · skip
        refine lv_aload_n hx hb d_X_turn_100 rfl (lv_at hl 2 rfl) ?_
        refine gf_X_64 hx hb hts hown hT hM hj2 d_X_turn_101 ?_
        have hv_101 : τ.2 3 ((μ1.1 2 j2 2).toNatClampNeg) := lz_3 hM hj2
        refine q_X_68 hx hb hml hown hts hT hM hv_101 (c_B_isOn l G τ μ1 ((μ1.1 2 j2 2).toNatClampNeg) hv_101) ⟨Nat.le_of_ble_eq_true rfl, Nat.le_of_ble_eq_true rfl⟩ ⟨Nat.zero_le _, Nat.zero_le _⟩ (lv_room (Nat.le_of_ble_eq_true rfl)) hl.1 d_X_turn_104 (fun H locs hM => ?_)
        refine lv_if_ne (tgt := 118) hx hb d_X_turn_107 (by decide) (fun c_107 => ?_) (fun c_107 => ?_)
        · skip
          refine lv_iload hx hb d_X_turn_118 (lv_at hl 6 rfl) ?_
          have e_f : f_X_turn_l52 (n + 1) x1 j2 x3 x4 x5 x6 x7 μ1 = (x6, μ1) := by
            exact (if_pos c_58).trans ((if_neg c_107).trans rfl)
          rw [e_f]
          exact W.iret (v := x6) hx hb hr (fun t ht hW => ⟨rfl, hM.end ht⟩) hM.2.2.1 d_X_turn_120
        · skip
          refine lv_aload_n hx hb d_X_turn_110 rfl (lv_at hl 0 rfl) ?_
          refine lv_aload_n hx hb d_X_turn_111 rfl (lv_at hl 2 rfl) ?_
          refine gf_X_64 hx hb hts hown hT hM hj2 d_X_turn_112 ?_
          have hv_112 : τ.2 3 ((μ1.1 2 j2 2).toNatClampNeg) := lz_3 hM hj2
          refine q_X_185 hx hb hml hown hts hT hM (lz_0 hM) (c_X_letWaitingGo l G τ μ1 ((μ1.1 2 j2 2).toNatClampNeg) hv_112 (hI)) ⟨Nat.le_of_ble_eq_true rfl, Nat.le_of_ble_eq_true rfl⟩ ⟨Nat.zero_le _, Nat.zero_le _⟩ (lv_room (Nat.le_of_ble_eq_true rfl)) hl.1 d_X_turn_115 (fun H locs hM => ?_)
          obtain ⟨m_115, e_115⟩ : ∃ z : mMem, z = (f_X_letWaitingGo μ1 ((μ1.1 2 j2 2).toNatClampNeg)) := ⟨_, rfl⟩
          rw [← e_115] at hM
          refine lv_iload hx hb d_X_turn_118 (lv_at hl 6 rfl) ?_
          have e_f : f_X_turn_l52 (n + 1) x1 j2 x3 x4 x5 x6 x7 μ1 = (x6, m_115) := by
            subst e_115
            exact (if_pos c_58).trans ((if_pos c_107).trans rfl)
          rw [e_f]
          exact W.iret (v := x6) hx hb hr (fun t ht hW => ⟨rfl, hM.end ht⟩) hM.2.2.1 d_X_turn_120
      · skip
        refine lv_aload_n hx hb d_X_turn_61 rfl (lv_at hl 0 rfl) ?_
        refine gf_X_11 hx hb hts hown hT hM (lz_0 hM) d_X_turn_62 ?_
        refine lv_iload hx hb d_X_turn_65 (lv_at hl 7 rfl) ?_
        refine al_1 hx hb hT hM (lz_1 hM) (in_made hI hp c_58) d_X_turn_67 (fun c_67 => ?_) (fun c_67 hv_67 => ?_)
        · skip
          refine lv_iload_n hx hb d_X_turn_68 rfl (lv_at hl 1 rfl) ?_
          refine lv_iload hx hb d_X_turn_69 (lv_at hl 4 rfl) ?_
          refine lv_iload hx hb d_X_turn_71 (lv_at hl 5 rfl) ?_
          refine q_X_177 hx hb hml hown hts hT hM (c_X_callInTurn l G τ μ1 none (fun _ h => by cases h) x1 x4 x5) ⟨Nat.le_of_ble_eq_true rfl, Nat.le_of_ble_eq_true rfl⟩ ⟨Nat.zero_le _, Nat.zero_le _⟩ (lv_room (Nat.le_of_ble_eq_true rfl)) hl.1 d_X_turn_73 (fun H locs hM => ?_)
          refine lv_istore (lv' := [(8, .int (f_X_callInTurn μ1 none x1 x4 x5)), (0, .ref (τ.1 0 0)), (1, .int x1), (2, .ref (τ.1 2 j2)), (3, .int x3), (4, .int x4), (5, .int x5), (6, .int x6), (7, .int x7)]) hx hb d_X_turn_76 hl (by decide) rfl (fun ls hl => ?_)
          refine lv_aload_n hx hb d_X_turn_78 rfl (lv_at hl 1 rfl) ?_
          refine lv_iload hx hb d_X_turn_79 (lv_at hl 0 rfl) ?_
          refine lv_iload hx hb d_X_turn_81 (lv_at hl 8 rfl) ?_
          refine lv_iload_n hx hb d_X_turn_83 rfl (lv_at hl 4 rfl) ?_
          refine lv_i2l hx hb d_X_turn_84 rfl ?_
          refine q_X_181 hx hb hml hown hts hT hM (lz_0 hM) (c_X_goes l G τ μ1 (f_X_callInTurn μ1 none x1 x4 x5) x7 x3.toInt64 (hI)) ⟨Nat.le_of_ble_eq_true rfl, Nat.le_of_ble_eq_true rfl⟩ ⟨Nat.zero_le _, Nat.zero_le _⟩ (lv_room (Nat.le_of_ble_eq_true rfl)) hl.1 d_X_turn_85 (fun H locs hM => ?_)
          obtain ⟨m_85, e_85⟩ : ∃ z : mMem, z = (f_X_goes μ1 (f_X_callInTurn μ1 none x1 x4 x5) x7 x3.toInt64).2 := ⟨_, rfl⟩
          rw [← e_85] at hM
          have hI : iX m_85 := by rw [e_85]; exact iX_X_goes hI
          refine lv_if_eq (tgt := 94) hx hb d_X_turn_88 (by decide) (fun c_88 => ?_) (fun c_88 => ?_)
          · skip
            refine lv_iinc (v := x7 + (1 : Int32)) (lv' := [(7, .int (x7 + (1 : Int32))), (8, .int (f_X_callInTurn μ1 none x1 x4 x5)), (0, .ref (τ.1 0 0)), (1, .int x1), (2, .ref (τ.1 2 j2)), (3, .int x3), (4, .int x4), (5, .int x5), (6, .int x6)]) hx hb d_X_turn_94 hl (k := 8) rfl rfl (by decide) rfl (fun ls hl => ?_)
            refine lv_goto (tgt := 52) hx hb d_X_turn_97 (by decide) ?_
            have e_f : f_X_turn_l52 (n + 1) x1 j2 x3 x4 x5 x6 x7 μ1 = f_X_turn_l52 n x1 j2 x3 x4 x5 x6 (x7 + (1 : Int32)) m_85 := by
              subst e_85
              exact (if_neg c_58).trans ((if_pos c_67).trans ((if_pos c_88).trans rfl))
            rw [e_f]
            exact ih x1 j2 x3 x4 x5 x6 (x7 + (1 : Int32)) m_85 _ _ ls hj2 (hI) (inc_pos hp c_58) (by rw [e_85, goes_made]; exact inc_lt c_58 hn) hM (lv_sub hl [2, 3, 4, 5, 6, 7, 8, 0] rfl)
          · skip
            refine lv_iinc (v := x6 + (1 : Int32)) (lv' := [(6, .int (x6 + (1 : Int32))), (8, .int (f_X_callInTurn μ1 none x1 x4 x5)), (0, .ref (τ.1 0 0)), (1, .int x1), (2, .ref (τ.1 2 j2)), (3, .int x3), (4, .int x4), (5, .int x5), (7, .int x7)]) hx hb d_X_turn_91 hl (k := 7) rfl rfl (by decide) rfl (fun ls hl => ?_)
            refine lv_iinc (v := x7 + (1 : Int32)) (lv' := [(7, .int (x7 + (1 : Int32))), (6, .int (x6 + (1 : Int32))), (8, .int (f_X_callInTurn μ1 none x1 x4 x5)), (0, .ref (τ.1 0 0)), (1, .int x1), (2, .ref (τ.1 2 j2)), (3, .int x3), (4, .int x4), (5, .int x5)]) hx hb d_X_turn_94 hl (k := 8) rfl rfl (by decide) rfl (fun ls hl => ?_)
            refine lv_goto (tgt := 52) hx hb d_X_turn_97 (by decide) ?_
            have e_f : f_X_turn_l52 (n + 1) x1 j2 x3 x4 x5 x6 x7 μ1 = f_X_turn_l52 n x1 j2 x3 x4 x5 (x6 + (1 : Int32)) (x7 + (1 : Int32)) m_85 := by
              subst e_85
              exact (if_neg c_58).trans ((if_pos c_67).trans ((if_neg c_88).trans rfl))
            rw [e_f]
            exact ih x1 j2 x3 x4 x5 (x6 + (1 : Int32)) (x7 + (1 : Int32)) m_85 _ _ ls hj2 (hI) (inc_pos hp c_58) (by rw [e_85, goes_made]; exact inc_lt c_58 hn) hM (lv_sub hl [3, 4, 5, 6, 7, 8, 1, 0] rfl)
        · skip
          refine lv_iload_n hx hb d_X_turn_68 rfl (lv_at hl 1 rfl) ?_
          refine lv_iload hx hb d_X_turn_69 (lv_at hl 4 rfl) ?_
          refine lv_iload hx hb d_X_turn_71 (lv_at hl 5 rfl) ?_
          refine q_X_177 hx hb hml hown hts hT hM (c_X_callInTurn l G τ μ1 (some x7.toNatClampNeg) (fun _ h => by cases h; exact hv_67) x1 x4 x5) ⟨Nat.le_of_ble_eq_true rfl, Nat.le_of_ble_eq_true rfl⟩ ⟨Nat.zero_le _, Nat.zero_le _⟩ (lv_room (Nat.le_of_ble_eq_true rfl)) hl.1 d_X_turn_73 (fun H locs hM => ?_)
          refine lv_istore (lv' := [(8, .int (f_X_callInTurn μ1 (some x7.toNatClampNeg) x1 x4 x5)), (0, .ref (τ.1 0 0)), (1, .int x1), (2, .ref (τ.1 2 j2)), (3, .int x3), (4, .int x4), (5, .int x5), (6, .int x6), (7, .int x7)]) hx hb d_X_turn_76 hl (by decide) rfl (fun ls hl => ?_)
          refine lv_aload_n hx hb d_X_turn_78 rfl (lv_at hl 1 rfl) ?_
          refine lv_iload hx hb d_X_turn_79 (lv_at hl 0 rfl) ?_
          refine lv_iload hx hb d_X_turn_81 (lv_at hl 8 rfl) ?_
          refine lv_iload_n hx hb d_X_turn_83 rfl (lv_at hl 4 rfl) ?_
          refine lv_i2l hx hb d_X_turn_84 rfl ?_
          refine q_X_181 hx hb hml hown hts hT hM (lz_0 hM) (c_X_goes l G τ μ1 (f_X_callInTurn μ1 (some x7.toNatClampNeg) x1 x4 x5) x7 x3.toInt64 (hI)) ⟨Nat.le_of_ble_eq_true rfl, Nat.le_of_ble_eq_true rfl⟩ ⟨Nat.zero_le _, Nat.zero_le _⟩ (lv_room (Nat.le_of_ble_eq_true rfl)) hl.1 d_X_turn_85 (fun H locs hM => ?_)
          obtain ⟨m_85, e_85⟩ : ∃ z : mMem, z = (f_X_goes μ1 (f_X_callInTurn μ1 (some x7.toNatClampNeg) x1 x4 x5) x7 x3.toInt64).2 := ⟨_, rfl⟩
          rw [← e_85] at hM
          have hI : iX m_85 := by rw [e_85]; exact iX_X_goes hI
          refine lv_if_eq (tgt := 94) hx hb d_X_turn_88 (by decide) (fun c_88 => ?_) (fun c_88 => ?_)
          · skip
            refine lv_iinc (v := x7 + (1 : Int32)) (lv' := [(7, .int (x7 + (1 : Int32))), (8, .int (f_X_callInTurn μ1 (some x7.toNatClampNeg) x1 x4 x5)), (0, .ref (τ.1 0 0)), (1, .int x1), (2, .ref (τ.1 2 j2)), (3, .int x3), (4, .int x4), (5, .int x5), (6, .int x6)]) hx hb d_X_turn_94 hl (k := 8) rfl rfl (by decide) rfl (fun ls hl => ?_)
            refine lv_goto (tgt := 52) hx hb d_X_turn_97 (by decide) ?_
            have e_f : f_X_turn_l52 (n + 1) x1 j2 x3 x4 x5 x6 x7 μ1 = f_X_turn_l52 n x1 j2 x3 x4 x5 x6 (x7 + (1 : Int32)) m_85 := by
              subst e_85
              exact (if_neg c_58).trans ((if_neg c_67).trans ((if_pos c_88).trans rfl))
            rw [e_f]
            exact ih x1 j2 x3 x4 x5 x6 (x7 + (1 : Int32)) m_85 _ _ ls hj2 (hI) (inc_pos hp c_58) (by rw [e_85, goes_made]; exact inc_lt c_58 hn) hM (lv_sub hl [2, 3, 4, 5, 6, 7, 8, 0] rfl)
          · skip
            refine lv_iinc (v := x6 + (1 : Int32)) (lv' := [(6, .int (x6 + (1 : Int32))), (8, .int (f_X_callInTurn μ1 (some x7.toNatClampNeg) x1 x4 x5)), (0, .ref (τ.1 0 0)), (1, .int x1), (2, .ref (τ.1 2 j2)), (3, .int x3), (4, .int x4), (5, .int x5), (7, .int x7)]) hx hb d_X_turn_91 hl (k := 7) rfl rfl (by decide) rfl (fun ls hl => ?_)
            refine lv_iinc (v := x7 + (1 : Int32)) (lv' := [(7, .int (x7 + (1 : Int32))), (6, .int (x6 + (1 : Int32))), (8, .int (f_X_callInTurn μ1 (some x7.toNatClampNeg) x1 x4 x5)), (0, .ref (τ.1 0 0)), (1, .int x1), (2, .ref (τ.1 2 j2)), (3, .int x3), (4, .int x4), (5, .int x5)]) hx hb d_X_turn_94 hl (k := 8) rfl rfl (by decide) rfl (fun ls hl => ?_)
            refine lv_goto (tgt := 52) hx hb d_X_turn_97 (by decide) ?_
            have e_f : f_X_turn_l52 (n + 1) x1 j2 x3 x4 x5 x6 x7 μ1 = f_X_turn_l52 n x1 j2 x3 x4 x5 (x6 + (1 : Int32)) (x7 + (1 : Int32)) m_85 := by
              subst e_85
              exact (if_neg c_58).trans ((if_neg c_67).trans ((if_neg c_88).trans rfl))
            rw [e_f]
            exact ih x1 j2 x3 x4 x5 (x6 + (1 : Int32)) (x7 + (1 : Int32)) m_85 _ _ ls hj2 (hI) (inc_pos hp c_58) (by rw [e_85, goes_made]; exact inc_lt c_58 hn) hM (lv_sub hl [3, 4, 5, 6, 7, 8, 1, 0] rfl)
  have hl := lv_entry ([.ref (τ.1 0 0), .int a1]) (n := 9) (Nat.le_of_ble_eq_true rfl)
  rw [lg_entry_eq]
  skip
  generalize (lg_sl ([.ref (τ.1 0 0), .int a1]) ++ List.replicate (9 - (lg_sl ([.ref (τ.1 0 0), .int a1])).length) Slot.unset).toArray = ls at hl ⊢
  have hl : lv_has ls 9 [(0, .ref (τ.1 0 0)), (1, .int a1)] := hl
  refine lv_aload_n hx hb d_X_turn_0 rfl (lv_at hl 0 rfl) ?_
  refine lv_iload_n hx hb d_X_turn_1 rfl (lv_at hl 1 rfl) ?_
  refine q_X_166 hx hb hml hown hts hT hM (lz_0 hM) (c_X_houseAt l G τ μ a1) ⟨Nat.le_of_ble_eq_true rfl, Nat.le_of_ble_eq_true rfl⟩ ⟨Nat.zero_le _, Nat.zero_le _⟩ (lv_room (Nat.le_of_ble_eq_true rfl)) hl.1 d_X_turn_2 (fun H locs hM ho_2 => ?_) (fun H locs hM i_2 ho_2 hv_2 => ?_)
  · skip
    refine lv_astore_nN (lv' := [(2, .null), (0, .ref (τ.1 0 0)), (1, .int a1)]) hx hb d_X_turn_5 rfl hl (by decide) rfl (fun ls hl => ?_)
    refine lv_aload_nN hx hb d_X_turn_6 rfl (lv_at hl 0 rfl) ?_
    refine lv_ifnullN (tgt := 20) hx hb d_X_turn_7 (by decide) ?_
    refine lv_iconst (v := (-1 : Int32)) hx hb d_X_turn_20 (by decide) ?_
    have e_f : f_X_turn μ a1 = ((-1 : Int32), μ) := by
      exact (oC_n ho_2).trans rfl
    rw [e_f]
    exact W.iret (v := (-1 : Int32)) hx hb hr (fun t ht hW => ⟨rfl, hM.end ht⟩) hM.2.2.1 d_X_turn_21
  · skip
    refine lv_astore_n (lv' := [(2, .ref (τ.1 2 i_2)), (0, .ref (τ.1 0 0)), (1, .int a1)]) hx hb d_X_turn_5 rfl hl (by decide) rfl (fun ls hl => ?_)
    refine lv_aload_n hx hb d_X_turn_6 rfl (lv_at hl 0 rfl) ?_
    refine lv_ifnull hx hb d_X_turn_7 ?_
    refine lv_aload_n hx hb d_X_turn_10 rfl (lv_at hl 0 rfl) ?_
    refine gf_X_64 hx hb hts hown hT hM hv_2 d_X_turn_11 ?_
    have hv_11 : τ.2 3 ((μ.1 2 i_2 2).toNatClampNeg) := lz_3 hM hv_2
    refine q_X_68 hx hb hml hown hts hT hM hv_11 (c_B_isOn l G τ μ ((μ.1 2 i_2 2).toNatClampNeg) hv_11) ⟨Nat.le_of_ble_eq_true rfl, Nat.le_of_ble_eq_true rfl⟩ ⟨Nat.zero_le _, Nat.zero_le _⟩ (lv_room (Nat.le_of_ble_eq_true rfl)) hl.1 d_X_turn_14 (fun H locs hM => ?_)
    refine lv_if_ne (tgt := 22) hx hb d_X_turn_17 (by decide) (fun c_17 => ?_) (fun c_17 => ?_)
    · skip
      refine lv_aload_n hx hb d_X_turn_22 rfl (lv_at hl 0 rfl) ?_
      refine gf_X_64 hx hb hts hown hT hM hv_2 d_X_turn_23 ?_
      have hv_23 : τ.2 3 ((μ.1 2 i_2 2).toNatClampNeg) := lz_3 hM hv_2
      refine q_X_171 hx hb hml hown hts hT hM hv_23 (c_B_nextTurn l G τ μ ((μ.1 2 i_2 2).toNatClampNeg) hv_23) ⟨Nat.le_of_ble_eq_true rfl, Nat.le_of_ble_eq_true rfl⟩ ⟨Nat.zero_le _, Nat.zero_le _⟩ (lv_room (Nat.le_of_ble_eq_true rfl)) hl.1 d_X_turn_26 (fun H locs hM => ?_)
      obtain ⟨m_26, e_26⟩ : ∃ z : mMem, z = (f_B_nextTurn μ ((μ.1 2 i_2 2).toNatClampNeg)).2 := ⟨_, rfl⟩
      rw [← e_26] at hM
      have hI : iX m_26 := by rw [e_26]; exact iX_B_nextTurn hI
      refine lv_istore_n (lv' := [(3, .int ((f_B_nextTurn μ ((μ.1 2 i_2 2).toNatClampNeg)).1)), (2, .ref (τ.1 2 i_2)), (0, .ref (τ.1 0 0)), (1, .int a1)]) hx hb d_X_turn_29 rfl hl (by decide) rfl (fun ls hl => ?_)
      refine lv_aload_n hx hb d_X_turn_30 rfl (lv_at hl 2 rfl) ?_
      refine lv_iconst (v := (4 : Int32)) hx hb d_X_turn_31 (by decide) ?_
      refine q_X_174 hx hb hml hown hts hT hM (lz_0 hM) (c_X_leastCallFor l G τ m_26 (4 : Int32)) ⟨Nat.le_of_ble_eq_true rfl, Nat.le_of_ble_eq_true rfl⟩ ⟨Nat.zero_le _, Nat.zero_le _⟩ (lv_room (Nat.le_of_ble_eq_true rfl)) hl.1 d_X_turn_32 (fun H locs hM => ?_)
      refine lv_istore (lv' := [(4, .int (f_X_leastCallFor m_26 (4 : Int32))), (3, .int ((f_B_nextTurn μ ((μ.1 2 i_2 2).toNatClampNeg)).1)), (2, .ref (τ.1 2 i_2)), (0, .ref (τ.1 0 0)), (1, .int a1)]) hx hb d_X_turn_35 hl (by decide) rfl (fun ls hl => ?_)
      refine lv_aload_n hx hb d_X_turn_37 rfl (lv_at hl 3 rfl) ?_
      refine lv_iconst (v := (5 : Int32)) hx hb d_X_turn_38 (by decide) ?_
      refine q_X_174 hx hb hml hown hts hT hM (lz_0 hM) (c_X_leastCallFor l G τ m_26 (5 : Int32)) ⟨Nat.le_of_ble_eq_true rfl, Nat.le_of_ble_eq_true rfl⟩ ⟨Nat.zero_le _, Nat.zero_le _⟩ (lv_room (Nat.le_of_ble_eq_true rfl)) hl.1 d_X_turn_39 (fun H locs hM => ?_)
      refine lv_istore (lv' := [(5, .int (f_X_leastCallFor m_26 (5 : Int32))), (4, .int (f_X_leastCallFor m_26 (4 : Int32))), (3, .int ((f_B_nextTurn μ ((μ.1 2 i_2 2).toNatClampNeg)).1)), (2, .ref (τ.1 2 i_2)), (0, .ref (τ.1 0 0)), (1, .int a1)]) hx hb d_X_turn_42 hl (by decide) rfl (fun ls hl => ?_)
      refine lv_iconst (v := (0 : Int32)) hx hb d_X_turn_44 (by decide) ?_
      refine lv_istore (lv' := [(6, .int (0 : Int32)), (5, .int (f_X_leastCallFor m_26 (5 : Int32))), (4, .int (f_X_leastCallFor m_26 (4 : Int32))), (3, .int ((f_B_nextTurn μ ((μ.1 2 i_2 2).toNatClampNeg)).1)), (2, .ref (τ.1 2 i_2)), (0, .ref (τ.1 0 0)), (1, .int a1)]) hx hb d_X_turn_45 hl (by decide) rfl (fun ls hl => ?_)
      refine lv_iload_n hx hb d_X_turn_47 rfl (lv_at hl 6 rfl) ?_
      refine lv_iconst (v := (1 : Int32)) hx hb d_X_turn_48 (by decide) ?_
      refine lv_iadd hx hb d_X_turn_49 ?_
      refine lv_istore (lv' := [(7, .int (a1 + (1 : Int32))), (6, .int (0 : Int32)), (5, .int (f_X_leastCallFor m_26 (5 : Int32))), (4, .int (f_X_leastCallFor m_26 (4 : Int32))), (3, .int ((f_B_nextTurn μ ((μ.1 2 i_2 2).toNatClampNeg)).1)), (2, .ref (τ.1 2 i_2)), (0, .ref (τ.1 0 0)), (1, .int a1)]) hx hb d_X_turn_50 hl (by decide) rfl (fun ls hl => ?_)
      have e_f : f_X_turn μ a1 = f_X_turn_l52 64 a1 i_2 ((f_B_nextTurn μ ((μ.1 2 i_2 2).toNatClampNeg)).1) (f_X_leastCallFor m_26 (4 : Int32)) (f_X_leastCallFor m_26 (5 : Int32)) (0 : Int32) (a1 + (1 : Int32)) m_26 := by
        subst e_26
        exact (oC_s ho_2).trans ((if_neg c_17).trans rfl)
      rw [e_f]
      exact loop_52 64 a1 i_2 ((f_B_nextTurn μ ((μ.1 2 i_2 2).toNatClampNeg)).1) (f_X_leastCallFor m_26 (4 : Int32)) (f_X_leastCallFor m_26 (5 : Int32)) (0 : Int32) (a1 + (1 : Int32)) m_26 _ _ ls hv_2 (hI) (inc_pos1 (houseAt_in ho_2)) (fuel_made hI (inc_pos1 (houseAt_in ho_2))) hM (lv_sub hl [6, 7, 5, 4, 3, 2, 1, 0] rfl)
    · skip
      refine lv_iconst (v := (-1 : Int32)) hx hb d_X_turn_20 (by decide) ?_
      have e_f : f_X_turn μ a1 = ((-1 : Int32), μ) := by
        exact (oC_s ho_2).trans ((if_pos c_17).trans rfl)
      rw [e_f]
      exact W.iret (v := (-1 : Int32)) hx hb hr (fun t ht hW => ⟨rfl, hM.end ht⟩) hM.2.2.1 d_X_turn_21
