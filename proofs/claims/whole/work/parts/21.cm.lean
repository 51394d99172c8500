set_option maxHeartbeats 4000000 in
set_option maxRecDepth 100000 in
theorem c_M_collected (l : Launch) (G : mG) (τ : mTau) (μ : mMem) (a1 : Int32) : Met l y_M_collected w_M_collected r_M_collected (mPc G τ μ [.ref (τ.1 20 0), .int a1]) (mQ G τ (some (.int (f_M_collected μ a1).1)) (f_M_collected μ a1).2) 0 0 (fun q => G.2.2.1 ≤ q) := by
  refine Met.ofW (cc := b_M_collected) (maxL := 2) (ret := (some .int)) (by decide) rfl ?_
  intro p e s m args below meth c s₁ B hml hv
  obtain ⟨rfl, hT, hM⟩ := hv
  have hx := B.exec
  have hb := B.bytes
  have hr := B.returns
  have hts : ∀ w ∈ gG, w.before _ s = true := fun w h => atoms_spec (ws := w_M_collected) B.pre w (List.mem_cons_of_mem _ h)
  have hown : s.vm.findClass R_M = some m.cls := findClass_of_methodNamed B.named
  have hlocks := B.notSynchronized
  have hl := lv_entry ([.ref (τ.1 20 0), .int a1]) (n := 2) (Nat.le_of_ble_eq_true rfl)
  rw [lg_entry_eq]
  skip
  generalize (lg_sl ([.ref (τ.1 20 0), .int a1]) ++ List.replicate (2 - (lg_sl ([.ref (τ.1 20 0), .int a1])).length) Slot.unset).toArray = ls at hl ⊢
  have hl : lv_has ls 2 [(0, .ref (τ.1 20 0)), (1, .int a1)] := hl
  refine lv_aload_n hx hb d_M_collected_0 rfl (lv_at hl 0 rfl) ?_
  refine lv_iconst (v := (0 : Int32)) hx hb d_M_collected_1 (by decide) ?_
  refine pf_M_90 hx hb hts hown hT hM (lz_20 hM) d_M_collected_2 (fun m_2 H locs e_2 hM => ?_)
  refine lv_iload_n hx hb d_M_collected_5 rfl (lv_at hl 1 rfl) ?_
  refine q_M_105 hx hb hml hown hts hT hM (c_M_isSort l G τ m_2 a1) ⟨Nat.le_of_ble_eq_true rfl, Nat.le_of_ble_eq_true rfl⟩ ⟨Nat.zero_le _, Nat.zero_le _⟩ (lv_room (Nat.le_of_ble_eq_true rfl)) hl.1 d_M_collected_6 (fun H locs hM => ?_)
  refine lv_if_eq (tgt := 21) hx hb d_M_collected_9 (by decide) (fun c_9 => ?_) (fun c_9 => ?_)
  · skip
    refine lv_iconst (v := (-1 : Int32)) hx hb d_M_collected_21 (by decide) ?_
    have e_f : f_M_collected μ a1 = ((-1 : Int32), m_2) := by
      subst e_2
      exact (if_pos c_9).trans rfl
    rw [e_f]
    exact W.iret (v := (-1 : Int32)) hx hb hr (fun t ht hW => ⟨rfl, hM.end ht⟩) hM.2.2.1 d_M_collected_22
  · skip
    have hs := sort_inM c_9
    refine lv_aload_n hx hb d_M_collected_12 rfl (lv_at hl 0 rfl) ?_
    refine gf_M_38 hx hb hts hown hT hM (lz_20 hM) d_M_collected_13 ?_
    refine lv_iload_n hx hb d_M_collected_16 rfl (lv_at hl 1 rfl) ?_
    refine al_31 hx hb hT hM (lz_31 hM) (by first | assumption | exact vin 3 (b := 3) (by decide) (by assumption) (by assumption)) d_M_collected_17 ?_
    refine lv_goto (tgt := 22) hx hb d_M_collected_18 (by decide) ?_
    have e_f : f_M_collected μ a1 = (m_2.1 31 0 a1.toNatClampNeg, m_2) := by
      subst e_2
      exact (if_neg c_9).trans rfl
    rw [e_f]
    exact W.iret (v := m_2.1 31 0 a1.toNatClampNeg) hx hb hr (fun t ht hW => ⟨rfl, hM.end ht⟩) hM.2.2.1 d_M_collected_22
set_option maxHeartbeats 4000000 in
set_option maxRecDepth 100000 in
theorem c_M_sumOf (l : Launch) (G : mG) (τ : mTau) (μ : mMem) (a1 : Int32) (hJ : iM μ) (hs : 0 ≤ a1.toInt ∧ a1.toInt < 3) : Met l y_M_sumOf w_M_sumOf r_M_sumOf (mPc G τ μ [.ref (τ.1 20 0), .int a1]) (mQ G τ (some (.long (f_M_sumOf μ a1))) μ) 0 0 (fun q => G.2.2.1 ≤ q) := by
  refine Met.ofW (cc := b_M_sumOf) (maxL := 5) (ret := (some .long)) (by decide) rfl ?_
  intro p e s m args below meth c s₁ B hml hv
  obtain ⟨rfl, hT, hM⟩ := hv
  have hx := B.exec
  have hb := B.bytes
  have hr := B.returns
  have hts : ∀ w ∈ gG, w.before _ s = true := fun w h => atoms_spec (ws := w_M_sumOf) B.pre w (List.mem_cons_of_mem _ h)
  have hown : s.vm.findClass R_M = some m.cls := findClass_of_methodNamed B.named
  have hlocks := B.notSynchronized
  have loop_8 : ∀ (n : Nat) (x1 : Int32) (x2 : Int64) (x4 : Int32) (μ1 : mMem) (H : Heap) (locs : List Loc) (ls : Array Slot), iM μ1 → 0 ≤ x1.toInt ∧ x1.toInt < 3 → ((30 : Int32) * x1).toInt ≤ x4.toInt → ((((30 : Int32) * x1) + (μ1.1 31 0 x1.toNatClampNeg)).toInt - x4.toInt).toNat < n → mw G τ μ1 H locs → lv_has ls 5 [(0, .ref (τ.1 20 0)), (1, .int x1), (2, .long x2), (4, .int x4)] → W p l e (headSpec (w_M_sumOf) (r_M_sumOf)).room s m ([.ref (τ.1 20 0), .int a1] : List Value).toArray below meth c H locs 0 0 (MQ below (mQ G τ (some (.long (f_M_sumOf_l8 n x1 x2 x4 μ1))) μ1) ([.ref (τ.1 20 0), .int a1] : List Value).toArray s 0 0 (fun q => G.2.2.1 ≤ q)) (F0 m 8 ls []) := by
    intro n
    induction n with
    | zero => intro x1 x2 x4 μ1 H locs ls  hJ hs hp hn hM hl; exact absurd hn (Nat.not_lt_zero _)
    | succ n ih =>
      intro x1 x2 x4 μ1 H locs ls  hJ hs hp hn hM hl
      refine lv_iload hx hb d_M_sumOf_8 (lv_at hl 3 rfl) ?_
      refine lv_bipush (v := (30 : Int32)) hx hb d_M_sumOf_10 (by decide) ?_
      refine lv_iload_n hx hb d_M_sumOf_12 rfl (lv_at hl 1 rfl) ?_
      refine lv_imul hx hb d_M_sumOf_13 ?_
      refine lv_aload_n hx hb d_M_sumOf_14 rfl (lv_at hl 0 rfl) ?_
      refine gf_M_38 hx hb hts hown hT hM (lz_20 hM) d_M_sumOf_15 ?_
      refine lv_iload_n hx hb d_M_sumOf_18 rfl (lv_at hl 1 rfl) ?_
      refine al_31 hx hb hT hM (lz_31 hM) (in_3 hs) d_M_sumOf_19 ?_
      refine lv_iadd hx hb d_M_sumOf_20 ?_
      refine lv_icmp_ge (tgt := 47) hx hb d_M_sumOf_21 (by decide) (fun c_21 => ?_) (fun c_21 => ?_)
      · skip
        refine lv_lload_n hx hb d_M_sumOf_47 rfl (lv_at hl 2 rfl) ?_
        have e_f : f_M_sumOf_l8 (n + 1) x1 x2 x4 μ1 = x2 := by
          exact (if_pos c_21).trans rfl
        rw [e_f]
        exact W.lret (v := x2) hx hb hr (fun t ht hW => ⟨rfl, hM.end ht⟩) hM.2.2.1 d_M_sumOf_48
      · skip
        refine lv_ldc2 (v := (31 : Int64)) hx hb hown (hts _ kw_constantLong_M_108_31) d_M_sumOf_24 ?_
        refine lv_lload_n hx hb d_M_sumOf_27 rfl (lv_at hl 2 rfl) ?_
        refine lv_lmul hx hb d_M_sumOf_28 ?_
        refine lv_aload_n hx hb d_M_sumOf_29 rfl (lv_at hl 0 rfl) ?_
        refine gf_M_41 hx hb hts hown hT hM (lz_20 hM) d_M_sumOf_30 ?_
        refine lv_iload hx hb d_M_sumOf_33 (lv_at hl 3 rfl) ?_
        refine al_32 hx hb hT hM (lz_32 hM) (in_holds2 hJ hs hp c_21) d_M_sumOf_35 ?_
        refine lv_i2l hx hb d_M_sumOf_36 rfl ?_
        refine lv_ladd hx hb d_M_sumOf_37 ?_
        refine lv_lconst (v := (1 : Int64)) hx hb d_M_sumOf_38 (by decide) ?_
        refine lv_ladd hx hb d_M_sumOf_39 ?_
        refine lv_lstore_n (lv' := [(2, .long ((((31 : Int64) * x2) + ((μ1.1 32 0 x4.toNatClampNeg).toInt64)) + (1 : Int64))), (0, .ref (τ.1 20 0)), (1, .int x1), (4, .int x4)]) hx hb d_M_sumOf_40 rfl hl (by decide) rfl (fun ls hl => ?_)
        refine lv_iinc (v := x4 + (1 : Int32)) (lv' := [(4, .int (x4 + (1 : Int32))), (2, .long ((((31 : Int64) * x2) + ((μ1.1 32 0 x4.toNatClampNeg).toInt64)) + (1 : Int64))), (0, .ref (τ.1 20 0)), (1, .int x1)]) hx hb d_M_sumOf_41 hl (k := 3) rfl rfl (by decide) rfl (fun ls hl => ?_)
        refine lv_goto (tgt := 8) hx hb d_M_sumOf_44 (by decide) ?_
        have e_f : f_M_sumOf_l8 (n + 1) x1 x2 x4 μ1 = f_M_sumOf_l8 n x1 ((((31 : Int64) * x2) + ((μ1.1 32 0 x4.toNatClampNeg).toInt64)) + (1 : Int64)) (x4 + (1 : Int32)) μ1 := by
          exact (if_neg c_21).trans rfl
        rw [e_f]
        exact ih x1 ((((31 : Int64) * x2) + ((μ1.1 32 0 x4.toNatClampNeg).toInt64)) + (1 : Int64)) (x4 + (1 : Int32)) μ1 _ _ ls  (hJ) (hs) (inc_le hp c_21) (inc_lt c_21 hn) hM (lv_sub hl [2, 3, 1, 0] rfl)
  have hl := lv_entry ([.ref (τ.1 20 0), .int a1]) (n := 5) (Nat.le_of_ble_eq_true rfl)
  rw [lg_entry_eq]
  skip
  generalize (lg_sl ([.ref (τ.1 20 0), .int a1]) ++ List.replicate (5 - (lg_sl ([.ref (τ.1 20 0), .int a1])).length) Slot.unset).toArray = ls at hl ⊢
  have hl : lv_has ls 5 [(0, .ref (τ.1 20 0)), (1, .int a1)] := hl
  refine lv_lconst (v := (0 : Int64)) hx hb d_M_sumOf_0 (by decide) ?_
  refine lv_lstore_n (lv' := [(2, .long (0 : Int64)), (0, .ref (τ.1 20 0)), (1, .int a1)]) hx hb d_M_sumOf_1 rfl hl (by decide) rfl (fun ls hl => ?_)
  refine lv_bipush (v := (30 : Int32)) hx hb d_M_sumOf_2 (by decide) ?_
  refine lv_iload_n hx hb d_M_sumOf_4 rfl (lv_at hl 2 rfl) ?_
  refine lv_imul hx hb d_M_sumOf_5 ?_
  refine lv_istore (lv' := [(4, .int ((30 : Int32) * a1)), (2, .long (0 : Int64)), (0, .ref (τ.1 20 0)), (1, .int a1)]) hx hb d_M_sumOf_6 hl (by decide) rfl (fun ls hl => ?_)
  have e_f : f_M_sumOf μ a1 = f_M_sumOf_l8 64 a1 (0 : Int64) ((30 : Int32) * a1) μ := by
    exact rfl
  rw [e_f]
  exact loop_8 64 a1 (0 : Int64) ((30 : Int32) * a1) μ _ _ ls  (hJ) (hs) (Int.le_refl _) (fuel_sum hJ hs) hM (lv_sub hl [2, 3, 1, 0] rfl)
set_option maxHeartbeats 4000000 in
set_option maxRecDepth 100000 in
theorem c_M_define (l : Launch) (G : mG) (τ : mTau) (μ : mMem) (a1 : Int32) (a2 : Int32) (a3 : Int32) (a4 : Int64) (a5 : Int64) : Met l y_M_define w_M_define r_M_define (mPc G τ μ [.ref (τ.1 20 0), .int a1, .int a2, .int a3, .long a4, .long a5]) (mQ G τ (some (.int (f_M_define μ a1 a2 a3 a4 a5).1)) (f_M_define μ a1 a2 a3 a4 a5).2) 0 0 (fun q => G.2.2.1 ≤ q) := by
  refine Met.ofW (cc := b_M_define) (maxL := 8) (ret := (some .boolean)) (by decide) rfl ?_
  intro p e s m args below meth c s₁ B hml hv
  obtain ⟨rfl, hT, hM⟩ := hv
  have hx := B.exec
  have hb := B.bytes
  have hr := B.returns
  have hts : ∀ w ∈ gG, w.before _ s = true := fun w h => atoms_spec (ws := w_M_define) B.pre w (List.mem_cons_of_mem _ h)
  have hown : s.vm.findClass R_M = some m.cls := findClass_of_methodNamed B.named
  have hlocks := B.notSynchronized
  have hl := lv_entry ([.ref (τ.1 20 0), .int a1, .int a2, .int a3, .long a4, .long a5]) (n := 8) (Nat.le_of_ble_eq_true rfl)
  rw [lg_entry_eq]
  skip
  generalize (lg_sl ([.ref (τ.1 20 0), .int a1, .int a2, .int a3, .long a4, .long a5]) ++ List.replicate (8 - (lg_sl ([.ref (τ.1 20 0), .int a1, .int a2, .int a3, .long a4, .long a5])).length) Slot.unset).toArray = ls at hl ⊢
  have hl : lv_has ls 8 [(0, .ref (τ.1 20 0)), (1, .int a1), (2, .int a2), (3, .int a3), (4, .long a4), (6, .long a5)] := hl
  refine lv_aload_n hx hb d_M_define_0 rfl (lv_at hl 0 rfl) ?_
  refine lv_iconst (v := (0 : Int32)) hx hb d_M_define_1 (by decide) ?_
  refine pf_M_90 hx hb hts hown hT hM (lz_20 hM) d_M_define_2 (fun m_2 H locs e_2 hM => ?_)
  refine lv_iload_n hx hb d_M_define_5 rfl (lv_at hl 1 rfl) ?_
  refine lv_if_lt (tgt := 45) hx hb d_M_define_6 (by decide) (fun c_6 => ?_) (fun c_6 => ?_)
  · skip
    refine lv_iconst (v := (0 : Int32)) hx hb d_M_define_45 (by decide) ?_
    have e_f : f_M_define μ a1 a2 a3 a4 a5 = ((0 : Int32), m_2) := by
      subst e_2
      exact (if_pos c_6).trans rfl
    rw [e_f]
    exact W.zret (v := (0 : Int32)) hx hb hr rfl (fun t ht hW => ⟨rfl, hM.end ht⟩) hM.2.2.1 d_M_define_46
  · skip
    refine lv_iload_n hx hb d_M_define_9 rfl (lv_at hl 1 rfl) ?_
    refine lv_bipush (v := (12 : Int32)) hx hb d_M_define_10 (by decide) ?_
    refine lv_icmp_ge (tgt := 45) hx hb d_M_define_12 (by decide) (fun c_12 => ?_) (fun c_12 => ?_)
    · skip
      refine lv_iconst (v := (0 : Int32)) hx hb d_M_define_45 (by decide) ?_
      have e_f : f_M_define μ a1 a2 a3 a4 a5 = ((0 : Int32), m_2) := by
        subst e_2
        exact (if_neg c_6).trans ((if_pos c_12).trans rfl)
      rw [e_f]
      exact W.zret (v := (0 : Int32)) hx hb hr rfl (fun t ht hW => ⟨rfl, hM.end ht⟩) hM.2.2.1 d_M_define_46
    · skip
      refine lv_iload_n hx hb d_M_define_15 rfl (lv_at hl 2 rfl) ?_
      refine lv_if_lt (tgt := 45) hx hb d_M_define_16 (by decide) (fun c_16 => ?_) (fun c_16 => ?_)
      · skip
        refine lv_iconst (v := (0 : Int32)) hx hb d_M_define_45 (by decide) ?_
        have e_f : f_M_define μ a1 a2 a3 a4 a5 = ((0 : Int32), m_2) := by
          subst e_2
          exact (if_neg c_6).trans ((if_neg c_12).trans ((if_pos c_16).trans rfl))
        rw [e_f]
        exact W.zret (v := (0 : Int32)) hx hb hr rfl (fun t ht hW => ⟨rfl, hM.end ht⟩) hM.2.2.1 d_M_define_46
      · skip
        refine lv_iload_n hx hb d_M_define_19 rfl (lv_at hl 2 rfl) ?_
        refine lv_bipush (v := (8 : Int32)) hx hb d_M_define_20 (by decide) ?_
        refine lv_icmp_gt (tgt := 45) hx hb d_M_define_22 (by decide) (fun c_22 => ?_) (fun c_22 => ?_)
        · skip
          refine lv_iconst (v := (0 : Int32)) hx hb d_M_define_45 (by decide) ?_
          have e_f : f_M_define μ a1 a2 a3 a4 a5 = ((0 : Int32), m_2) := by
            subst e_2
            exact (if_neg c_6).trans ((if_neg c_12).trans ((if_neg c_16).trans ((if_pos c_22).trans rfl)))
          rw [e_f]
          exact W.zret (v := (0 : Int32)) hx hb hr rfl (fun t ht hW => ⟨rfl, hM.end ht⟩) hM.2.2.1 d_M_define_46
        · skip
          refine lv_iload_n hx hb d_M_define_25 rfl (lv_at hl 3 rfl) ?_
          refine lv_iconst (v := (-1 : Int32)) hx hb d_M_define_26 (by decide) ?_
          refine lv_icmp_eq (tgt := 37) hx hb d_M_define_27 (by decide) (fun c_27 => ?_) (fun c_27 => ?_)
          · skip
            refine lv_lload hx hb d_M_define_37 (lv_at hl 4 rfl) ?_
            refine lv_lload hx hb d_M_define_39 (lv_at hl 5 rfl) ?_
            refine W.lcmp hx hb d_M_define_41 ?_
            refine lv_if_le (tgt := 47) hx hb d_M_define_42 (by decide) (fun c_42 => ?_) (fun c_42 => ?_)
            · skip
              refine lv_aload_n hx hb d_M_define_47 rfl (lv_at hl 0 rfl) ?_
              refine gf_M_44 hx hb hts hown hT hM (lz_20 hM) d_M_define_48 ?_
              refine lv_iload_n hx hb d_M_define_51 rfl (lv_at hl 1 rfl) ?_
              refine lv_iconst (v := (1 : Int32)) hx hb d_M_define_52 (by decide) ?_
              refine as_33 hx hb hT hM (lz_33 hM) rfl (by first | assumption | exact vin 12 (b := 12) (by decide) (by assumption) (by assumption)) d_M_define_53 (fun m_53 H locs e_53 hM => ?_)
              refine lv_aload_n hx hb d_M_define_54 rfl (lv_at hl 0 rfl) ?_
              refine gf_M_48 hx hb hts hown hT hM (lz_20 hM) d_M_define_55 ?_
              refine lv_iload_n hx hb d_M_define_58 rfl (lv_at hl 1 rfl) ?_
              refine lv_iload_n hx hb d_M_define_59 rfl (lv_at hl 2 rfl) ?_
              refine as_34 hx hb hT hM (lz_34 hM) (by first | assumption | exact vin 12 (b := 12) (by decide) (by assumption) (by assumption)) d_M_define_60 (fun m_60 H locs e_60 hM => ?_)
              refine lv_aload_n hx hb d_M_define_61 rfl (lv_at hl 0 rfl) ?_
              refine gf_M_51 hx hb hts hown hT hM (lz_20 hM) d_M_define_62 ?_
              refine lv_iload_n hx hb d_M_define_65 rfl (lv_at hl 1 rfl) ?_
              refine lv_iload_n hx hb d_M_define_66 rfl (lv_at hl 3 rfl) ?_
              refine as_35 hx hb hT hM (lz_35 hM) (by first | assumption | exact vin 12 (b := 12) (by decide) (by assumption) (by assumption)) d_M_define_67 (fun m_67 H locs e_67 hM => ?_)
              refine lv_aload_n hx hb d_M_define_68 rfl (lv_at hl 0 rfl) ?_
              refine gf_M_66 hx hb hts hown hT hM (lz_20 hM) d_M_define_69 ?_
              refine lv_iload_n hx hb d_M_define_72 rfl (lv_at hl 1 rfl) ?_
              refine lv_lload hx hb d_M_define_73 (lv_at hl 4 rfl) ?_
              refine as_40 hx hb hT hM (lz_40 hM) (by first | assumption | exact vin 12 (b := 12) (by decide) (by assumption) (by assumption)) d_M_define_75 (fun m_75 H locs e_75 hM => ?_)
              refine lv_aload_n hx hb d_M_define_76 rfl (lv_at hl 0 rfl) ?_
              refine gf_M_69 hx hb hts hown hT hM (lz_20 hM) d_M_define_77 ?_
              refine lv_iload_n hx hb d_M_define_80 rfl (lv_at hl 1 rfl) ?_
              refine lv_lload hx hb d_M_define_81 (lv_at hl 5 rfl) ?_
              refine as_41 hx hb hT hM (lz_41 hM) (by first | assumption | exact vin 12 (b := 12) (by decide) (by assumption) (by assumption)) d_M_define_83 (fun m_83 H locs e_83 hM => ?_)
              refine lv_aload_n hx hb d_M_define_84 rfl (lv_at hl 0 rfl) ?_
              refine gf_M_54 hx hb hts hown hT hM (lz_20 hM) d_M_define_85 ?_
              refine lv_iload_n hx hb d_M_define_88 rfl (lv_at hl 1 rfl) ?_
              refine lv_iconst (v := (0 : Int32)) hx hb d_M_define_89 (by decide) ?_
              refine as_36 hx hb hT hM (lz_36 hM) (by first | assumption | exact vin 12 (b := 12) (by decide) (by assumption) (by assumption)) d_M_define_90 (fun m_90 H locs e_90 hM => ?_)
              refine lv_aload_n hx hb d_M_define_91 rfl (lv_at hl 0 rfl) ?_
              refine gf_M_57 hx hb hts hown hT hM (lz_20 hM) d_M_define_92 ?_
              refine lv_iload_n hx hb d_M_define_95 rfl (lv_at hl 1 rfl) ?_
              refine lv_iconst (v := (0 : Int32)) hx hb d_M_define_96 (by decide) ?_
              refine as_37 hx hb hT hM (lz_37 hM) (by first | assumption | exact vin 12 (b := 12) (by decide) (by assumption) (by assumption)) d_M_define_97 (fun m_97 H locs e_97 hM => ?_)
              refine lv_aload_n hx hb d_M_define_98 rfl (lv_at hl 0 rfl) ?_
              refine gf_M_63 hx hb hts hown hT hM (lz_20 hM) d_M_define_99 ?_
              refine lv_iload_n hx hb d_M_define_102 rfl (lv_at hl 1 rfl) ?_
              refine lv_iconst (v := (0 : Int32)) hx hb d_M_define_103 (by decide) ?_
              refine as_39 hx hb hT hM (lz_39 hM) (by first | assumption | exact vin 12 (b := 12) (by decide) (by assumption) (by assumption)) d_M_define_104 (fun m_104 H locs e_104 hM => ?_)
              refine lv_iconst (v := (1 : Int32)) hx hb d_M_define_105 (by decide) ?_
              have e_f : f_M_define μ a1 a2 a3 a4 a5 = ((1 : Int32), m_104) := by
                subst e_104 e_97 e_90 e_83 e_75 e_67 e_60 e_53 e_2
                exact (if_neg c_6).trans ((if_neg c_12).trans ((if_neg c_16).trans ((if_neg c_22).trans ((if_pos c_27).trans ((if_pos c_42).trans rfl)))))
              rw [e_f]
              exact W.zret (v := (1 : Int32)) hx hb hr rfl (fun t ht hW => ⟨rfl, hM.end ht⟩) hM.2.2.1 d_M_define_106
            · skip
              refine lv_iconst (v := (0 : Int32)) hx hb d_M_define_45 (by decide) ?_
              have e_f : f_M_define μ a1 a2 a3 a4 a5 = ((0 : Int32), m_2) := by
                subst e_2
                exact (if_neg c_6).trans ((if_neg c_12).trans ((if_neg c_16).trans ((if_neg c_22).trans ((if_pos c_27).trans ((if_neg c_42).trans rfl)))))
              rw [e_f]
              exact W.zret (v := (0 : Int32)) hx hb hr rfl (fun t ht hW => ⟨rfl, hM.end ht⟩) hM.2.2.1 d_M_define_46
          · skip
            refine lv_iload_n hx hb d_M_define_30 rfl (lv_at hl 3 rfl) ?_
            refine q_M_105 hx hb hml hown hts hT hM (c_M_isSort l G τ m_2 a3) ⟨Nat.le_of_ble_eq_true rfl, Nat.le_of_ble_eq_true rfl⟩ ⟨Nat.zero_le _, Nat.zero_le _⟩ (lv_room (Nat.le_of_ble_eq_true rfl)) hl.1 d_M_define_31 (fun H locs hM => ?_)
            refine lv_if_eq (tgt := 45) hx hb d_M_define_34 (by decide) (fun c_34 => ?_) (fun c_34 => ?_)
            · skip
              refine lv_iconst (v := (0 : Int32)) hx hb d_M_define_45 (by decide) ?_
              have e_f : f_M_define μ a1 a2 a3 a4 a5 = ((0 : Int32), m_2) := by
                subst e_2
                exact (if_neg c_6).trans ((if_neg c_12).trans ((if_neg c_16).trans ((if_neg c_22).trans ((if_neg c_27).trans ((if_pos c_34).trans rfl)))))
              rw [e_f]
              exact W.zret (v := (0 : Int32)) hx hb hr rfl (fun t ht hW => ⟨rfl, hM.end ht⟩) hM.2.2.1 d_M_define_46
            · skip
              refine lv_lload hx hb d_M_define_37 (lv_at hl 4 rfl) ?_
              refine lv_lload hx hb d_M_define_39 (lv_at hl 5 rfl) ?_
              refine W.lcmp hx hb d_M_define_41 ?_
              refine lv_if_le (tgt := 47) hx hb d_M_define_42 (by decide) (fun c_42 => ?_) (fun c_42 => ?_)
              · skip
                refine lv_aload_n hx hb d_M_define_47 rfl (lv_at hl 0 rfl) ?_
                refine gf_M_44 hx hb hts hown hT hM (lz_20 hM) d_M_define_48 ?_
                refine lv_iload_n hx hb d_M_define_51 rfl (lv_at hl 1 rfl) ?_
                refine lv_iconst (v := (1 : Int32)) hx hb d_M_define_52 (by decide) ?_
                refine as_33 hx hb hT hM (lz_33 hM) rfl (by first | assumption | exact vin 12 (b := 12) (by decide) (by assumption) (by assumption)) d_M_define_53 (fun m_53 H locs e_53 hM => ?_)
                refine lv_aload_n hx hb d_M_define_54 rfl (lv_at hl 0 rfl) ?_
                refine gf_M_48 hx hb hts hown hT hM (lz_20 hM) d_M_define_55 ?_
                refine lv_iload_n hx hb d_M_define_58 rfl (lv_at hl 1 rfl) ?_
                refine lv_iload_n hx hb d_M_define_59 rfl (lv_at hl 2 rfl) ?_
                refine as_34 hx hb hT hM (lz_34 hM) (by first | assumption | exact vin 12 (b := 12) (by decide) (by assumption) (by assumption)) d_M_define_60 (fun m_60 H locs e_60 hM => ?_)
                refine lv_aload_n hx hb d_M_define_61 rfl (lv_at hl 0 rfl) ?_
                refine gf_M_51 hx hb hts hown hT hM (lz_20 hM) d_M_define_62 ?_
                refine lv_iload_n hx hb d_M_define_65 rfl (lv_at hl 1 rfl) ?_
                refine lv_iload_n hx hb d_M_define_66 rfl (lv_at hl 3 rfl) ?_
                refine as_35 hx hb hT hM (lz_35 hM) (by first | assumption | exact vin 12 (b := 12) (by decide) (by assumption) (by assumption)) d_M_define_67 (fun m_67 H locs e_67 hM => ?_)
                refine lv_aload_n hx hb d_M_define_68 rfl (lv_at hl 0 rfl) ?_
                refine gf_M_66 hx hb hts hown hT hM (lz_20 hM) d_M_define_69 ?_
                refine lv_iload_n hx hb d_M_define_72 rfl (lv_at hl 1 rfl) ?_
                refine lv_lload hx hb d_M_define_73 (lv_at hl 4 rfl) ?_
                refine as_40 hx hb hT hM (lz_40 hM) (by first | assumption | exact vin 12 (b := 12) (by decide) (by assumption) (by assumption)) d_M_define_75 (fun m_75 H locs e_75 hM => ?_)
                refine lv_aload_n hx hb d_M_define_76 rfl (lv_at hl 0 rfl) ?_
                refine gf_M_69 hx hb hts hown hT hM (lz_20 hM) d_M_define_77 ?_
                refine lv_iload_n hx hb d_M_define_80 rfl (lv_at hl 1 rfl) ?_
                refine lv_lload hx hb d_M_define_81 (lv_at hl 5 rfl) ?_
                refine as_41 hx hb hT hM (lz_41 hM) (by first | assumption | exact vin 12 (b := 12) (by decide) (by assumption) (by assumption)) d_M_define_83 (fun m_83 H locs e_83 hM => ?_)
                refine lv_aload_n hx hb d_M_define_84 rfl (lv_at hl 0 rfl) ?_
                refine gf_M_54 hx hb hts hown hT hM (lz_20 hM) d_M_define_85 ?_
                refine lv_iload_n hx hb d_M_define_88 rfl (lv_at hl 1 rfl) ?_
                refine lv_iconst (v := (0 : Int32)) hx hb d_M_define_89 (by decide) ?_
                refine as_36 hx hb hT hM (lz_36 hM) (by first | assumption | exact vin 12 (b := 12) (by decide) (by assumption) (by assumption)) d_M_define_90 (fun m_90 H locs e_90 hM => ?_)
                refine lv_aload_n hx hb d_M_define_91 rfl (lv_at hl 0 rfl) ?_
                refine gf_M_57 hx hb hts hown hT hM (lz_20 hM) d_M_define_92 ?_
                refine lv_iload_n hx hb d_M_define_95 rfl (lv_at hl 1 rfl) ?_
                refine lv_iconst (v := (0 : Int32)) hx hb d_M_define_96 (by decide) ?_
                refine as_37 hx hb hT hM (lz_37 hM) (by first | assumption | exact vin 12 (b := 12) (by decide) (by assumption) (by assumption)) d_M_define_97 (fun m_97 H locs e_97 hM => ?_)
                refine lv_aload_n hx hb d_M_define_98 rfl (lv_at hl 0 rfl) ?_
                refine gf_M_63 hx hb hts hown hT hM (lz_20 hM) d_M_define_99 ?_
                refine lv_iload_n hx hb d_M_define_102 rfl (lv_at hl 1 rfl) ?_
                refine lv_iconst (v := (0 : Int32)) hx hb d_M_define_103 (by decide) ?_
                refine as_39 hx hb hT hM (lz_39 hM) (by first | assumption | exact vin 12 (b := 12) (by decide) (by assumption) (by assumption)) d_M_define_104 (fun m_104 H locs e_104 hM => ?_)
                refine lv_iconst (v := (1 : Int32)) hx hb d_M_define_105 (by decide) ?_
                have e_f : f_M_define μ a1 a2 a3 a4 a5 = ((1 : Int32), m_104) := by
                  subst e_104 e_97 e_90 e_83 e_75 e_67 e_60 e_53 e_2
                  exact (if_neg c_6).trans ((if_neg c_12).trans ((if_neg c_16).trans ((if_neg c_22).trans ((if_neg c_27).trans ((if_neg c_34).trans ((if_pos c_42).trans rfl))))))
                rw [e_f]
                exact W.zret (v := (1 : Int32)) hx hb hr rfl (fun t ht hW => ⟨rfl, hM.end ht⟩) hM.2.2.1 d_M_define_106
              · skip
                refine lv_iconst (v := (0 : Int32)) hx hb d_M_define_45 (by decide) ?_
                have e_f : f_M_define μ a1 a2 a3 a4 a5 = ((0 : Int32), m_2) := by
                  subst e_2
                  exact (if_neg c_6).trans ((if_neg c_12).trans ((if_neg c_16).trans ((if_neg c_22).trans ((if_neg c_27).trans ((if_neg c_34).trans ((if_neg c_42).trans rfl))))))
                rw [e_f]
                exact W.zret (v := (0 : Int32)) hx hb hr rfl (fun t ht hW => ⟨rfl, hM.end ht⟩) hM.2.2.1 d_M_define_46
set_option maxHeartbeats 4000000 in
set_option maxRecDepth 100000 in
theorem c_M_answer (l : Launch) (G : mG) (τ : mTau) (μ : mMem) (a1 : Int32) (a2 : Int64) (hJ : iM μ) : Met l y_M_answer w_M_answer r_M_answer (mPc G τ μ [.ref (τ.1 20 0), .int a1, .long a2]) (mQ G τ (some (.int (f_M_answer μ a1 a2).1)) (f_M_answer μ a1 a2).2) 0 0 (fun q => G.2.2.1 ≤ q) := by
  refine Met.ofW (cc := b_M_answer) (maxL := 4) (ret := (some .int)) (by decide) rfl ?_
  intro p e s m args below meth c s₁ B hml hv
  obtain ⟨rfl, hT, hM⟩ := hv
  have hx := B.exec
  have hb := B.bytes
  have hr := B.returns
  have hts : ∀ w ∈ gG, w.before _ s = true := fun w h => atoms_spec (ws := w_M_answer) B.pre w (List.mem_cons_of_mem _ h)
  have hown : s.vm.findClass R_M = some m.cls := findClass_of_methodNamed B.named
  have hlocks := B.notSynchronized
  have hl := lv_entry ([.ref (τ.1 20 0), .int a1, .long a2]) (n := 4) (Nat.le_of_ble_eq_true rfl)
  rw [lg_entry_eq]
  skip
  generalize (lg_sl ([.ref (τ.1 20 0), .int a1, .long a2]) ++ List.replicate (4 - (lg_sl ([.ref (τ.1 20 0), .int a1, .long a2])).length) Slot.unset).toArray = ls at hl ⊢
  have hl : lv_has ls 4 [(0, .ref (τ.1 20 0)), (1, .int a1), (2, .long a2)] := hl
  refine lv_aload_n hx hb d_M_answer_0 rfl (lv_at hl 0 rfl) ?_
  refine lv_iconst (v := (0 : Int32)) hx hb d_M_answer_1 (by decide) ?_
  refine pf_M_90 hx hb hts hown hT hM (lz_20 hM) d_M_answer_2 (fun m_2 H locs e_2 hM => ?_)
  have hJ : iM m_2 := by rw [e_2]; exact iM_I hJ rfl
  refine lv_aload_n hx hb d_M_answer_5 rfl (lv_at hl 0 rfl) ?_
  refine lv_iload_n hx hb d_M_answer_6 rfl (lv_at hl 1 rfl) ?_
  refine q_M_110 hx hb hml hown hts hT hM (lz_20 hM) (c_M_isDefined l G τ m_2 a1) ⟨Nat.le_of_ble_eq_true rfl, Nat.le_of_ble_eq_true rfl⟩ ⟨Nat.zero_le _, Nat.zero_le _⟩ (lv_room (Nat.le_of_ble_eq_true rfl)) hl.1 d_M_answer_7 (fun H locs hM => ?_)
  refine lv_if_eq (tgt := 23) hx hb d_M_answer_10 (by decide) (fun c_10 => ?_) (fun c_10 => ?_)
  · skip
    refine lv_iconst (v := (-1 : Int32)) hx hb d_M_answer_23 (by decide) ?_
    have e_f : f_M_answer μ a1 a2 = ((-1 : Int32), m_2) := by
      subst e_2
      exact (if_pos c_10).trans rfl
    rw [e_f]
    exact W.iret (v := (-1 : Int32)) hx hb hr (fun t ht hW => ⟨rfl, hM.end ht⟩) hM.2.2.1 d_M_answer_24
  · skip
    have hd := md_in c_10
    refine lv_aload_n hx hb d_M_answer_13 rfl (lv_at hl 0 rfl) ?_
    refine gf_M_54 hx hb hts hown hT hM (lz_20 hM) d_M_answer_14 ?_
    refine lv_iload_n hx hb d_M_answer_17 rfl (lv_at hl 1 rfl) ?_
    refine al_36 hx hb hT hM (lz_36 hM) (by first | assumption | exact vin 12 (b := 12) (by decide) (by assumption) (by assumption)) d_M_answer_18 ?_
    refine lv_iconst (v := (5 : Int32)) hx hb d_M_answer_19 (by decide) ?_
    refine lv_icmp_ne (tgt := 25) hx hb d_M_answer_20 (by decide) (fun c_20 => ?_) (fun c_20 => ?_)
    · skip
      refine lv_aload_n hx hb d_M_answer_25 rfl (lv_at hl 0 rfl) ?_
      refine gf_M_72 hx hb hts hown hT hM (lz_20 hM) d_M_answer_26 ?_
      refine lv_iconst (v := (5 : Int32)) hx hb d_M_answer_29 (by decide) ?_
      refine lv_iload_n hx hb d_M_answer_30 rfl (lv_at hl 1 rfl) ?_
      refine lv_imul hx hb d_M_answer_31 ?_
      refine lv_aload_n hx hb d_M_answer_32 rfl (lv_at hl 0 rfl) ?_
      refine gf_M_54 hx hb hts hown hT hM (lz_20 hM) d_M_answer_33 ?_
      refine lv_iload_n hx hb d_M_answer_36 rfl (lv_at hl 1 rfl) ?_
      refine al_36 hx hb hT hM (lz_36 hM) (by first | assumption | exact vin 12 (b := 12) (by decide) (by assumption) (by assumption)) d_M_answer_37 ?_
      refine lv_iadd hx hb d_M_answer_38 ?_
      refine lv_lload_n hx hb d_M_answer_39 rfl (lv_at hl 2 rfl) ?_
      refine as_42 hx hb hT hM (lz_42 hM) (in_tab hJ hd c_20) d_M_answer_40 (fun m_40 H locs e_40 hM => ?_)
      have hJ : iM m_40 := by rw [e_40]; exact iM_L hJ rfl
      refine lv_aload_n hx hb d_M_answer_41 rfl (lv_at hl 0 rfl) ?_
      refine gf_M_54 hx hb hts hown hT hM (lz_20 hM) d_M_answer_42 ?_
      refine lv_iload_n hx hb d_M_answer_45 rfl (lv_at hl 1 rfl) ?_
      refine lv_dup2_11 hx hb d_M_answer_46 rfl rfl ?_
      refine al_36 hx hb hT hM (lz_36 hM) (by first | assumption | exact vin 12 (b := 12) (by decide) (by assumption) (by assumption)) d_M_answer_47 ?_
      refine lv_iconst (v := (1 : Int32)) hx hb d_M_answer_48 (by decide) ?_
      refine lv_iadd hx hb d_M_answer_49 ?_
      refine as_36 hx hb hT hM (lz_36 hM) (by first | assumption | exact vin 12 (b := 12) (by decide) (by assumption) (by assumption)) d_M_answer_50 (fun m_50 H locs e_50 hM => ?_)
      refine lv_aload_n hx hb d_M_answer_51 rfl (lv_at hl 0 rfl) ?_
      refine gf_M_54 hx hb hts hown hT hM (lz_20 hM) d_M_answer_52 ?_
      refine lv_iload_n hx hb d_M_answer_55 rfl (lv_at hl 1 rfl) ?_
      refine al_36 hx hb hT hM (lz_36 hM) (by first | assumption | exact vin 12 (b := 12) (by decide) (by assumption) (by assumption)) d_M_answer_56 ?_
      have e_f : f_M_answer μ a1 a2 = (m_50.1 36 0 a1.toNatClampNeg, m_50) := by
        subst e_50 e_40 e_2
        exact (if_neg c_10).trans ((if_neg c_20).trans rfl)
      rw [e_f]
      exact W.iret (v := m_50.1 36 0 a1.toNatClampNeg) hx hb hr (fun t ht hW => ⟨rfl, hM.end ht⟩) hM.2.2.1 d_M_answer_57
    · skip
      refine lv_iconst (v := (-1 : Int32)) hx hb d_M_answer_23 (by decide) ?_
      have e_f : f_M_answer μ a1 a2 = ((-1 : Int32), m_2) := by
        subst e_2
        exact (if_neg c_10).trans ((if_pos c_20).trans rfl)
      rw [e_f]
      exact W.iret (v := (-1 : Int32)) hx hb hr (fun t ht hW => ⟨rfl, hM.end ht⟩) hM.2.2.1 d_M_answer_24
set_option maxHeartbeats 4000000 in
set_option maxRecDepth 100000 in
theorem c_M_fails (l : Launch) (G : mG) (τ : mTau) (μ : mMem) (a1 : Int32) (a2 : Int32) (a3 : Int32) : Met l y_M_fails w_M_fails r_M_fails (mPc G τ μ [.ref (τ.1 20 0), .int a1, .int a2, .int a3]) (mQ G τ (some (.int (f_M_fails μ a1 a2 a3).1)) (f_M_fails μ a1 a2 a3).2) 0 0 (fun q => G.2.2.1 ≤ q) := by
  refine Met.ofW (cc := b_M_fails) (maxL := 4) (ret := (some .boolean)) (by decide) rfl ?_
  intro p e s m args below meth c s₁ B hml hv
  obtain ⟨rfl, hT, hM⟩ := hv
  have hx := B.exec
  have hb := B.bytes
  have hr := B.returns
  have hts : ∀ w ∈ gG, w.before _ s = true := fun w h => atoms_spec (ws := w_M_fails) B.pre w (List.mem_cons_of_mem _ h)
  have hown : s.vm.findClass R_M = some m.cls := findClass_of_methodNamed B.named
  have hlocks := B.notSynchronized
  have hl := lv_entry ([.ref (τ.1 20 0), .int a1, .int a2, .int a3]) (n := 4) (Nat.le_of_ble_eq_true rfl)
  rw [lg_entry_eq]
  skip
  generalize (lg_sl ([.ref (τ.1 20 0), .int a1, .int a2, .int a3]) ++ List.replicate (4 - (lg_sl ([.ref (τ.1 20 0), .int a1, .int a2, .int a3])).length) Slot.unset).toArray = ls at hl ⊢
  have hl : lv_has ls 4 [(0, .ref (τ.1 20 0)), (1, .int a1), (2, .int a2), (3, .int a3)] := hl
  refine lv_aload_n hx hb d_M_fails_0 rfl (lv_at hl 0 rfl) ?_
  refine lv_iconst (v := (0 : Int32)) hx hb d_M_fails_1 (by decide) ?_
  refine pf_M_90 hx hb hts hown hT hM (lz_20 hM) d_M_fails_2 (fun m_2 H locs e_2 hM => ?_)
  refine lv_aload_n hx hb d_M_fails_5 rfl (lv_at hl 0 rfl) ?_
  refine lv_iload_n hx hb d_M_fails_6 rfl (lv_at hl 1 rfl) ?_
  refine q_M_110 hx hb hml hown hts hT hM (lz_20 hM) (c_M_isDefined l G τ m_2 a1) ⟨Nat.le_of_ble_eq_true rfl, Nat.le_of_ble_eq_true rfl⟩ ⟨Nat.zero_le _, Nat.zero_le _⟩ (lv_room (Nat.le_of_ble_eq_true rfl)) hl.1 d_M_fails_7 (fun H locs hM => ?_)
  refine lv_if_eq (tgt := 33) hx hb d_M_fails_10 (by decide) (fun c_10 => ?_) (fun c_10 => ?_)
  · skip
    refine lv_iconst (v := (0 : Int32)) hx hb d_M_fails_33 (by decide) ?_
    have e_f : f_M_fails μ a1 a2 a3 = ((0 : Int32), m_2) := by
      subst e_2
      exact (if_pos c_10).trans rfl
    rw [e_f]
    exact W.zret (v := (0 : Int32)) hx hb hr rfl (fun t ht hW => ⟨rfl, hM.end ht⟩) hM.2.2.1 d_M_fails_34
  · skip
    have hd := md_in c_10
    refine lv_iload_n hx hb d_M_fails_13 rfl (lv_at hl 2 rfl) ?_
    refine lv_iconst (v := (1 : Int32)) hx hb d_M_fails_14 (by decide) ?_
    refine lv_icmp_lt (tgt := 33) hx hb d_M_fails_15 (by decide) (fun c_15 => ?_) (fun c_15 => ?_)
    · skip
      refine lv_iconst (v := (0 : Int32)) hx hb d_M_fails_33 (by decide) ?_
      have e_f : f_M_fails μ a1 a2 a3 = ((0 : Int32), m_2) := by
        subst e_2
        exact (if_neg c_10).trans ((if_pos c_15).trans rfl)
      rw [e_f]
      exact W.zret (v := (0 : Int32)) hx hb hr rfl (fun t ht hW => ⟨rfl, hM.end ht⟩) hM.2.2.1 d_M_fails_34
    · skip
      refine lv_iload_n hx hb d_M_fails_18 rfl (lv_at hl 2 rfl) ?_
      refine lv_iconst (v := (3 : Int32)) hx hb d_M_fails_19 (by decide) ?_
      refine lv_icmp_gt (tgt := 33) hx hb d_M_fails_20 (by decide) (fun c_20 => ?_) (fun c_20 => ?_)
      · skip
        refine lv_iconst (v := (0 : Int32)) hx hb d_M_fails_33 (by decide) ?_
        have e_f : f_M_fails μ a1 a2 a3 = ((0 : Int32), m_2) := by
          subst e_2
          exact (if_neg c_10).trans ((if_neg c_15).trans ((if_pos c_20).trans rfl))
        rw [e_f]
        exact W.zret (v := (0 : Int32)) hx hb hr rfl (fun t ht hW => ⟨rfl, hM.end ht⟩) hM.2.2.1 d_M_fails_34
      · skip
        refine lv_iload_n hx hb d_M_fails_23 rfl (lv_at hl 3 rfl) ?_
        refine lv_if_lt (tgt := 33) hx hb d_M_fails_24 (by decide) (fun c_24 => ?_) (fun c_24 => ?_)
        · skip
          refine lv_iconst (v := (0 : Int32)) hx hb d_M_fails_33 (by decide) ?_
          have e_f : f_M_fails μ a1 a2 a3 = ((0 : Int32), m_2) := by
            subst e_2
            exact (if_neg c_10).trans ((if_neg c_15).trans ((if_neg c_20).trans ((if_pos c_24).trans rfl)))
          rw [e_f]
          exact W.zret (v := (0 : Int32)) hx hb hr rfl (fun t ht hW => ⟨rfl, hM.end ht⟩) hM.2.2.1 d_M_fails_34
        · skip
          refine lv_iload_n hx hb d_M_fails_27 rfl (lv_at hl 3 rfl) ?_
          refine lv_bipush (v := (9 : Int32)) hx hb d_M_fails_28 (by decide) ?_
          refine lv_icmp_le (tgt := 35) hx hb d_M_fails_30 (by decide) (fun c_30 => ?_) (fun c_30 => ?_)
          · skip
            refine lv_aload_n hx hb d_M_fails_35 rfl (lv_at hl 0 rfl) ?_
            refine gf_M_60 hx hb hts hown hT hM (lz_20 hM) d_M_fails_36 ?_
            refine lv_iload_n hx hb d_M_fails_39 rfl (lv_at hl 1 rfl) ?_
            refine lv_iload_n hx hb d_M_fails_40 rfl (lv_at hl 2 rfl) ?_
            refine as_38 hx hb hT hM (lz_38 hM) (by first | assumption | exact vin 12 (b := 12) (by decide) (by assumption) (by assumption)) d_M_fails_41 (fun m_41 H locs e_41 hM => ?_)
            refine lv_aload_n hx hb d_M_fails_42 rfl (lv_at hl 0 rfl) ?_
            refine gf_M_63 hx hb hts hown hT hM (lz_20 hM) d_M_fails_43 ?_
            refine lv_iload_n hx hb d_M_fails_46 rfl (lv_at hl 1 rfl) ?_
            refine lv_iload_n hx hb d_M_fails_47 rfl (lv_at hl 3 rfl) ?_
            refine as_39 hx hb hT hM (lz_39 hM) (by first | assumption | exact vin 12 (b := 12) (by decide) (by assumption) (by assumption)) d_M_fails_48 (fun m_48 H locs e_48 hM => ?_)
            refine lv_iconst (v := (1 : Int32)) hx hb d_M_fails_49 (by decide) ?_
            have e_f : f_M_fails μ a1 a2 a3 = ((1 : Int32), m_48) := by
              subst e_48 e_41 e_2
              exact (if_neg c_10).trans ((if_neg c_15).trans ((if_neg c_20).trans ((if_neg c_24).trans ((if_pos c_30).trans rfl))))
            rw [e_f]
            exact W.zret (v := (1 : Int32)) hx hb hr rfl (fun t ht hW => ⟨rfl, hM.end ht⟩) hM.2.2.1 d_M_fails_50
          · skip
            refine lv_iconst (v := (0 : Int32)) hx hb d_M_fails_33 (by decide) ?_
            have e_f : f_M_fails μ a1 a2 a3 = ((0 : Int32), m_2) := by
              subst e_2
              exact (if_neg c_10).trans ((if_neg c_15).trans ((if_neg c_20).trans ((if_neg c_24).trans ((if_neg c_30).trans rfl))))
            rw [e_f]
            exact W.zret (v := (0 : Int32)) hx hb hr rfl (fun t ht hW => ⟨rfl, hM.end ht⟩) hM.2.2.1 d_M_fails_34
set_option maxHeartbeats 4000000 in
set_option maxRecDepth 100000 in
theorem c_M_go (l : Launch) (G : mG) (τ : mTau) (μ : mMem) (a1 : Int32) (a2 : Int64) (hc : vp_in a1 12) (hnx : 0 ≤ (μ.1 37 0 a1.toNatClampNeg).toInt ∧ (μ.1 37 0 a1.toNatClampNeg).toInt < 5) : Met l y_M_go w_M_go r_M_go (mPc G τ μ [.ref (τ.1 20 0), .int a1, .long a2]) (mQ G τ none (f_M_go μ a1 a2)) 0 0 (fun q => G.2.2.1 ≤ q) := by
  refine Met.ofW (cc := b_M_go) (maxL := 4) (ret := none) (by decide) rfl ?_
  intro p e s m args below meth c s₁ B hml hv
  obtain ⟨rfl, hT, hM⟩ := hv
  have hx := B.exec
  have hb := B.bytes
  have hr := B.returns
  have hts : ∀ w ∈ gG, w.before _ s = true := fun w h => atoms_spec (ws := w_M_go) B.pre w (List.mem_cons_of_mem _ h)
  have hown : s.vm.findClass R_M = some m.cls := findClass_of_methodNamed B.named
  have hlocks := B.notSynchronized
  have hl := lv_entry ([.ref (τ.1 20 0), .int a1, .long a2]) (n := 4) (Nat.le_of_ble_eq_true rfl)
  rw [lg_entry_eq]
  skip
  generalize (lg_sl ([.ref (τ.1 20 0), .int a1, .long a2]) ++ List.replicate (4 - (lg_sl ([.ref (τ.1 20 0), .int a1, .long a2])).length) Slot.unset).toArray = ls at hl ⊢
  have hl : lv_has ls 4 [(0, .ref (τ.1 20 0)), (1, .int a1), (2, .long a2)] := hl
  refine lv_aload_n hx hb d_M_go_0 rfl (lv_at hl 0 rfl) ?_
  refine lv_iconst (v := (0 : Int32)) hx hb d_M_go_1 (by decide) ?_
  refine pf_M_113 hx hb hts hown hT hM (lz_20 hM) d_M_go_2 (fun m_2 H locs e_2 hM => ?_)
  refine lv_aload_n hx hb d_M_go_5 rfl (lv_at hl 0 rfl) ?_
  refine lv_lconst (v := (0 : Int64)) hx hb d_M_go_6 (by decide) ?_
  refine pf_M_116 hx hb hts hown hT hM (lz_20 hM) d_M_go_7 (fun m_7 H locs e_7 hM => ?_)
  refine lv_aload_n hx hb d_M_go_10 rfl (lv_at hl 0 rfl) ?_
  refine gf_M_63 hx hb hts hown hT hM (lz_20 hM) d_M_go_11 ?_
  refine lv_iload_n hx hb d_M_go_14 rfl (lv_at hl 1 rfl) ?_
  refine al_39 hx hb hT hM (lz_39 hM) (by first | assumption | exact vin 12 (b := 12) (by decide) (by assumption) (by assumption)) d_M_go_15 ?_
  refine lv_if_le (tgt := 42) hx hb d_M_go_16 (by decide) (fun c_16 => ?_) (fun c_16 => ?_)
  · skip
    refine lv_aload_n hx hb d_M_go_42 rfl (lv_at hl 0 rfl) ?_
    refine gf_M_54 hx hb hts hown hT hM (lz_20 hM) d_M_go_43 ?_
    refine lv_iload_n hx hb d_M_go_46 rfl (lv_at hl 1 rfl) ?_
    refine al_36 hx hb hT hM (lz_36 hM) (by first | assumption | exact vin 12 (b := 12) (by decide) (by assumption) (by assumption)) d_M_go_47 ?_
    refine lv_if_ne (tgt := 59) hx hb d_M_go_48 (by decide) (fun c_48 => ?_) (fun c_48 => ?_)
    · skip
      refine lv_aload_n hx hb d_M_go_59 rfl (lv_at hl 0 rfl) ?_
      refine lv_lload_n hx hb d_M_go_60 rfl (lv_at hl 2 rfl) ?_
      refine lv_aload_n hx hb d_M_go_61 rfl (lv_at hl 0 rfl) ?_
      refine gf_M_72 hx hb hts hown hT hM (lz_20 hM) d_M_go_62 ?_
      refine lv_iconst (v := (5 : Int32)) hx hb d_M_go_65 (by decide) ?_
      refine lv_iload_n hx hb d_M_go_66 rfl (lv_at hl 1 rfl) ?_
      refine lv_imul hx hb d_M_go_67 ?_
      refine lv_aload_n hx hb d_M_go_68 rfl (lv_at hl 0 rfl) ?_
      refine gf_M_57 hx hb hts hown hT hM (lz_20 hM) d_M_go_69 ?_
      refine lv_iload_n hx hb d_M_go_72 rfl (lv_at hl 1 rfl) ?_
      refine al_37 hx hb hT hM (lz_37 hM) (by first | assumption | exact vin 12 (b := 12) (by decide) (by assumption) (by assumption)) d_M_go_73 ?_
      refine lv_iadd hx hb d_M_go_74 ?_
      refine al_42 hx hb hT hM (lz_42 hM) (in_tabn hc (by rw [e_7, e_2]; exact hnx)) d_M_go_75 ?_
      refine lv_ladd hx hb d_M_go_76 ?_
      refine pf_M_116 hx hb hts hown hT hM (lz_20 hM) d_M_go_77 (fun m_77 H locs e_77 hM => ?_)
      refine lv_aload_n hx hb d_M_go_80 rfl (lv_at hl 0 rfl) ?_
      refine gf_M_57 hx hb hts hown hT hM (lz_20 hM) d_M_go_81 ?_
      refine lv_iload_n hx hb d_M_go_84 rfl (lv_at hl 1 rfl) ?_
      refine lv_aload_n hx hb d_M_go_85 rfl (lv_at hl 0 rfl) ?_
      refine gf_M_57 hx hb hts hown hT hM (lz_20 hM) d_M_go_86 ?_
      refine lv_iload_n hx hb d_M_go_89 rfl (lv_at hl 1 rfl) ?_
      refine al_37 hx hb hT hM (lz_37 hM) (by first | assumption | exact vin 12 (b := 12) (by decide) (by assumption) (by assumption)) d_M_go_90 ?_
      refine lv_iconst (v := (1 : Int32)) hx hb d_M_go_91 (by decide) ?_
      refine lv_iadd hx hb d_M_go_92 ?_
      refine lv_aload_n hx hb d_M_go_93 rfl (lv_at hl 0 rfl) ?_
      refine gf_M_54 hx hb hts hown hT hM (lz_20 hM) d_M_go_94 ?_
      refine lv_iload_n hx hb d_M_go_97 rfl (lv_at hl 1 rfl) ?_
      refine al_36 hx hb hT hM (lz_36 hM) (by first | assumption | exact vin 12 (b := 12) (by decide) (by assumption) (by assumption)) d_M_go_98 ?_
      refine lv_icmp_ne (tgt := 106) hx hb d_M_go_99 (by decide) (fun c_99 => ?_) (fun c_99 => ?_)
      · skip
        refine lv_aload_n hx hb d_M_go_106 rfl (lv_at hl 0 rfl) ?_
        refine gf_M_57 hx hb hts hown hT hM (lz_20 hM) d_M_go_107 ?_
        refine lv_iload_n hx hb d_M_go_110 rfl (lv_at hl 1 rfl) ?_
        refine al_37 hx hb hT hM (lz_37 hM) (by first | assumption | exact vin 12 (b := 12) (by decide) (by assumption) (by assumption)) d_M_go_111 ?_
        refine lv_iconst (v := (1 : Int32)) hx hb d_M_go_112 (by decide) ?_
        refine lv_iadd hx hb d_M_go_113 ?_
        refine as_37 hx hb hT hM (lz_37 hM) (by first | assumption | exact vin 12 (b := 12) (by decide) (by assumption) (by assumption)) d_M_go_114 (fun m_114 H locs e_114 hM => ?_)
        have e_f : f_M_go μ a1 a2 = m_114 := by
          subst e_114 e_77 e_7 e_2
          exact (if_pos c_16).trans ((if_neg c_48).trans ((if_neg c_99).trans rfl))
        rw [e_f]
        exact W.vret hx hb hr (fun t ht hW => ⟨rfl, hM.end ht⟩) hM.2.2.1 d_M_go_115
      · skip
        refine lv_iconst (v := (0 : Int32)) hx hb d_M_go_102 (by decide) ?_
        refine lv_goto (tgt := 114) hx hb d_M_go_103 (by decide) ?_
        refine as_37 hx hb hT hM (lz_37 hM) (by first | assumption | exact vin 12 (b := 12) (by decide) (by assumption) (by assumption)) d_M_go_114 (fun m_114 H locs e_114 hM => ?_)
        have e_f : f_M_go μ a1 a2 = m_114 := by
          subst e_114 e_77 e_7 e_2
          exact (if_pos c_16).trans ((if_neg c_48).trans ((if_pos c_99).trans rfl))
        rw [e_f]
        exact W.vret hx hb hr (fun t ht hW => ⟨rfl, hM.end ht⟩) hM.2.2.1 d_M_go_115
    · skip
      refine lv_aload_n hx hb d_M_go_51 rfl (lv_at hl 0 rfl) ?_
      refine lv_lload_n hx hb d_M_go_52 rfl (lv_at hl 2 rfl) ?_
      refine pf_M_116 hx hb hts hown hT hM (lz_20 hM) d_M_go_53 (fun m_53 H locs e_53 hM => ?_)
      refine lv_goto (tgt := 115) hx hb d_M_go_56 (by decide) ?_
      have e_f : f_M_go μ a1 a2 = m_53 := by
        subst e_53 e_7 e_2
        exact (if_pos c_16).trans ((if_pos c_48).trans rfl)
      rw [e_f]
      exact W.vret hx hb hr (fun t ht hW => ⟨rfl, hM.end ht⟩) hM.2.2.1 d_M_go_115
  · skip
    refine lv_aload_n hx hb d_M_go_19 rfl (lv_at hl 0 rfl) ?_
    refine gf_M_63 hx hb hts hown hT hM (lz_20 hM) d_M_go_20 ?_
    refine lv_iload_n hx hb d_M_go_23 rfl (lv_at hl 1 rfl) ?_
    refine lv_dup2_11 hx hb d_M_go_24 rfl rfl ?_
    refine al_39 hx hb hT hM (lz_39 hM) (by first | assumption | exact vin 12 (b := 12) (by decide) (by assumption) (by assumption)) d_M_go_25 ?_
    refine lv_iconst (v := (1 : Int32)) hx hb d_M_go_26 (by decide) ?_
    refine lv_isub hx hb d_M_go_27 ?_
    refine as_39 hx hb hT hM (lz_39 hM) (by first | assumption | exact vin 12 (b := 12) (by decide) (by assumption) (by assumption)) d_M_go_28 (fun m_28 H locs e_28 hM => ?_)
    refine lv_aload_n hx hb d_M_go_29 rfl (lv_at hl 0 rfl) ?_
    refine lv_aload_n hx hb d_M_go_30 rfl (lv_at hl 0 rfl) ?_
    refine gf_M_60 hx hb hts hown hT hM (lz_20 hM) d_M_go_31 ?_
    refine lv_iload_n hx hb d_M_go_34 rfl (lv_at hl 1 rfl) ?_
    refine al_38 hx hb hT hM (lz_38 hM) (by first | assumption | exact vin 12 (b := 12) (by decide) (by assumption) (by assumption)) d_M_go_35 ?_
    refine pf_M_113 hx hb hts hown hT hM (lz_20 hM) d_M_go_36 (fun m_36 H locs e_36 hM => ?_)
    refine lv_goto (tgt := 115) hx hb d_M_go_39 (by decide) ?_
    have e_f : f_M_go μ a1 a2 = m_36 := by
      subst e_36 e_28 e_7 e_2
      exact (if_neg c_16).trans rfl
    rw [e_f]
    exact W.vret hx hb hr (fun t ht hW => ⟨rfl, hM.end ht⟩) hM.2.2.1 d_M_go_115
set_option maxHeartbeats 4000000 in
set_option maxRecDepth 100000 in
theorem c_M_tell (l : Launch) (G : mG) (τ : mTau) (μ : mMem) (a1 : Int32) (a2 : Int32) (a3 : Int32) (a4 : Int64) (hk : 0 ≤ (μ.1 46 0 0).toInt) : Met l y_M_tell w_M_tell r_M_tell (mPc G τ μ [.ref (τ.1 20 0), .int a1, .int a2, .int a3, .long a4]) (mQ G τ none (f_M_tell μ a1 a2 a3 a4)) 0 0 (fun q => G.2.2.1 ≤ q) := by
  refine Met.ofW (cc := b_M_tell) (maxL := 8) (ret := none) (by decide) rfl ?_
  intro p e s m args below meth c s₁ B hml hv
  obtain ⟨rfl, hT, hM⟩ := hv
  have hx := B.exec
  have hb := B.bytes
  have hr := B.returns
  have hts : ∀ w ∈ gG, w.before _ s = true := fun w h => atoms_spec (ws := w_M_tell) B.pre w (List.mem_cons_of_mem _ h)
  have hown : s.vm.findClass R_M = some m.cls := findClass_of_methodNamed B.named
  have hlocks := B.notSynchronized
  have hl := lv_entry ([.ref (τ.1 20 0), .int a1, .int a2, .int a3, .long a4]) (n := 8) (Nat.le_of_ble_eq_true rfl)
  rw [lg_entry_eq]
  skip
  generalize (lg_sl ([.ref (τ.1 20 0), .int a1, .int a2, .int a3, .long a4]) ++ List.replicate (8 - (lg_sl ([.ref (τ.1 20 0), .int a1, .int a2, .int a3, .long a4])).length) Slot.unset).toArray = ls at hl ⊢
  have hl : lv_has ls 8 [(0, .ref (τ.1 20 0)), (1, .int a1), (2, .int a2), (3, .int a3), (4, .long a4)] := hl
  refine lv_aload_n hx hb d_M_tell_0 rfl (lv_at hl 0 rfl) ?_
  refine gf_M_84 hx hb hts hown hT hM (lz_20 hM) d_M_tell_1 ?_
  refine lv_iconst (v := (0 : Int32)) hx hb d_M_tell_4 (by decide) ?_
  refine al_46 hx hb hT hM (lz_46 hM) (vp_in_iff.mpr (by decide)) d_M_tell_5 ?_
  refine lv_bipush (v := (40 : Int32)) hx hb d_M_tell_6 (by decide) ?_
  refine lv_irem hx hb d_M_tell_8 (by decide) ?_
  refine lv_istore (lv' := [(6, .int ((μ.1 46 0 (0 : Int32).toNatClampNeg) - (μ.1 46 0 (0 : Int32).toNatClampNeg) / (40 : Int32) * (40 : Int32))), (0, .ref (τ.1 20 0)), (1, .int a1), (2, .int a2), (3, .int a3), (4, .long a4)]) hx hb d_M_tell_9 hl (by decide) rfl (fun ls hl => ?_)
  refine lv_aload_n hx hb d_M_tell_11 rfl (lv_at hl 1 rfl) ?_
  refine gf_M_75 hx hb hts hown hT hM (lz_20 hM) d_M_tell_12 ?_
  refine lv_iload hx hb d_M_tell_15 (lv_at hl 0 rfl) ?_
  refine lv_iload_n hx hb d_M_tell_17 rfl (lv_at hl 2 rfl) ?_
  refine as_43 hx hb hT hM (lz_43 hM) (in_ring hk) d_M_tell_18 (fun m_18 H locs e_18 hM => ?_)
  refine lv_aload_n hx hb d_M_tell_19 rfl (lv_at hl 1 rfl) ?_
  refine gf_M_78 hx hb hts hown hT hM (lz_20 hM) d_M_tell_20 ?_
  refine lv_iload hx hb d_M_tell_23 (lv_at hl 0 rfl) ?_
  refine lv_iload_n hx hb d_M_tell_25 rfl (lv_at hl 3 rfl) ?_
  refine as_44 hx hb hT hM (lz_44 hM) (in_ring hk) d_M_tell_26 (fun m_26 H locs e_26 hM => ?_)
  refine lv_aload_n hx hb d_M_tell_27 rfl (lv_at hl 1 rfl) ?_
  refine gf_M_81 hx hb hts hown hT hM (lz_20 hM) d_M_tell_28 ?_
  refine lv_iload hx hb d_M_tell_31 (lv_at hl 0 rfl) ?_
  refine lv_iload_n hx hb d_M_tell_33 rfl (lv_at hl 4 rfl) ?_
  refine as_45 hx hb hT hM (lz_45 hM) (in_ring hk) d_M_tell_34 (fun m_34 H locs e_34 hM => ?_)
  refine lv_aload_n hx hb d_M_tell_35 rfl (lv_at hl 1 rfl) ?_
  refine gf_M_87 hx hb hts hown hT hM (lz_20 hM) d_M_tell_36 ?_
  refine lv_iload hx hb d_M_tell_39 (lv_at hl 0 rfl) ?_
  refine lv_lload hx hb d_M_tell_41 (lv_at hl 5 rfl) ?_
  refine as_47 hx hb hT hM (lz_47 hM) (in_ring hk) d_M_tell_43 (fun m_43 H locs e_43 hM => ?_)
  refine lv_aload_n hx hb d_M_tell_44 rfl (lv_at hl 1 rfl) ?_
  refine gf_M_84 hx hb hts hown hT hM (lz_20 hM) d_M_tell_45 ?_
  refine lv_iconst (v := (0 : Int32)) hx hb d_M_tell_48 (by decide) ?_
  refine lv_dup2_11 hx hb d_M_tell_49 rfl rfl ?_
  refine al_46 hx hb hT hM (lz_46 hM) (vp_in_iff.mpr (by decide)) d_M_tell_50 ?_
  refine lv_iconst (v := (1 : Int32)) hx hb d_M_tell_51 (by decide) ?_
  refine lv_iadd hx hb d_M_tell_52 ?_
  refine as_46 hx hb hT hM (lz_46 hM) (vp_in_iff.mpr (by decide)) d_M_tell_53 (fun m_53 H locs e_53 hM => ?_)
  refine lv_iload_n hx hb d_M_tell_54 rfl (lv_at hl 2 rfl) ?_
  refine lv_if_ne (tgt := 62) hx hb d_M_tell_55 (by decide) (fun c_55 => ?_) (fun c_55 => ?_)
  · skip
    refine lv_iload_n hx hb d_M_tell_62 rfl (lv_at hl 2 rfl) ?_
    refine lv_iconst (v := (4 : Int32)) hx hb d_M_tell_63 (by decide) ?_
    refine lv_icmp_ge (tgt := 71) hx hb d_M_tell_64 (by decide) (fun c_64 => ?_) (fun c_64 => ?_)
    · skip
      refine lv_iload_n hx hb d_M_tell_71 rfl (lv_at hl 2 rfl) ?_
      refine lv_iconst (v := (4 : Int32)) hx hb d_M_tell_72 (by decide) ?_
      refine lv_icmp_ne (tgt := 80) hx hb d_M_tell_73 (by decide) (fun c_73 => ?_) (fun c_73 => ?_)
      · skip
        refine lv_iconst (v := (4 : Int32)) hx hb d_M_tell_80 (by decide) ?_
        refine lv_istore (lv' := [(7, .int (4 : Int32)), (6, .int ((μ.1 46 0 (0 : Int32).toNatClampNeg) - (μ.1 46 0 (0 : Int32).toNatClampNeg) / (40 : Int32) * (40 : Int32))), (0, .ref (τ.1 20 0)), (1, .int a1), (2, .int a2), (3, .int a3), (4, .long a4)]) hx hb d_M_tell_81 hl (by decide) rfl (fun ls hl => ?_)
        refine lv_aload_n hx hb d_M_tell_83 rfl (lv_at hl 2 rfl) ?_
        refine gf_M_84 hx hb hts hown hT hM (lz_20 hM) d_M_tell_84 ?_
        refine lv_iload hx hb d_M_tell_87 (lv_at hl 0 rfl) ?_
        refine lv_dup2_11 hx hb d_M_tell_89 rfl rfl ?_
        refine al_46 hx hb hT hM (lz_46 hM) (vp_in_iff.mpr (by decide)) d_M_tell_90 ?_
        refine lv_iconst (v := (1 : Int32)) hx hb d_M_tell_91 (by decide) ?_
        refine lv_iadd hx hb d_M_tell_92 ?_
        refine as_46 hx hb hT hM (lz_46 hM) (vp_in_iff.mpr (by decide)) d_M_tell_93 (fun m_93 H locs e_93 hM => ?_)
        have e_f : f_M_tell μ a1 a2 a3 a4 = m_93 := by
          subst e_93 e_53 e_43 e_34 e_26 e_18
          exact (if_neg c_55).trans ((if_pos c_64).trans ((if_neg c_73).trans rfl))
        rw [e_f]
        exact W.vret hx hb hr (fun t ht hW => ⟨rfl, hM.end ht⟩) hM.2.2.1 d_M_tell_94
      · skip
        refine lv_iconst (v := (3 : Int32)) hx hb d_M_tell_76 (by decide) ?_
        refine lv_goto (tgt := 81) hx hb d_M_tell_77 (by decide) ?_
        refine lv_istore (lv' := [(7, .int (3 : Int32)), (6, .int ((μ.1 46 0 (0 : Int32).toNatClampNeg) - (μ.1 46 0 (0 : Int32).toNatClampNeg) / (40 : Int32) * (40 : Int32))), (0, .ref (τ.1 20 0)), (1, .int a1), (2, .int a2), (3, .int a3), (4, .long a4)]) hx hb d_M_tell_81 hl (by decide) rfl (fun ls hl => ?_)
        refine lv_aload_n hx hb d_M_tell_83 rfl (lv_at hl 2 rfl) ?_
        refine gf_M_84 hx hb hts hown hT hM (lz_20 hM) d_M_tell_84 ?_
        refine lv_iload hx hb d_M_tell_87 (lv_at hl 0 rfl) ?_
        refine lv_dup2_11 hx hb d_M_tell_89 rfl rfl ?_
        refine al_46 hx hb hT hM (lz_46 hM) (vp_in_iff.mpr (by decide)) d_M_tell_90 ?_
        refine lv_iconst (v := (1 : Int32)) hx hb d_M_tell_91 (by decide) ?_
        refine lv_iadd hx hb d_M_tell_92 ?_
        refine as_46 hx hb hT hM (lz_46 hM) (vp_in_iff.mpr (by decide)) d_M_tell_93 (fun m_93 H locs e_93 hM => ?_)
        have e_f : f_M_tell μ a1 a2 a3 a4 = m_93 := by
          subst e_93 e_53 e_43 e_34 e_26 e_18
          exact (if_neg c_55).trans ((if_pos c_64).trans ((if_pos c_73).trans rfl))
        rw [e_f]
        exact W.vret hx hb hr (fun t ht hW => ⟨rfl, hM.end ht⟩) hM.2.2.1 d_M_tell_94
    · skip
      refine lv_iconst (v := (2 : Int32)) hx hb d_M_tell_67 (by decide) ?_
      refine lv_goto (tgt := 81) hx hb d_M_tell_68 (by decide) ?_
      refine lv_istore (lv' := [(7, .int (2 : Int32)), (6, .int ((μ.1 46 0 (0 : Int32).toNatClampNeg) - (μ.1 46 0 (0 : Int32).toNatClampNeg) / (40 : Int32) * (40 : Int32))), (0, .ref (τ.1 20 0)), (1, .int a1), (2, .int a2), (3, .int a3), (4, .long a4)]) hx hb d_M_tell_81 hl (by decide) rfl (fun ls hl => ?_)
      refine lv_aload_n hx hb d_M_tell_83 rfl (lv_at hl 2 rfl) ?_
      refine gf_M_84 hx hb hts hown hT hM (lz_20 hM) d_M_tell_84 ?_
      refine lv_iload hx hb d_M_tell_87 (lv_at hl 0 rfl) ?_
      refine lv_dup2_11 hx hb d_M_tell_89 rfl rfl ?_
      refine al_46 hx hb hT hM (lz_46 hM) (vp_in_iff.mpr (by decide)) d_M_tell_90 ?_
      refine lv_iconst (v := (1 : Int32)) hx hb d_M_tell_91 (by decide) ?_
      refine lv_iadd hx hb d_M_tell_92 ?_
      refine as_46 hx hb hT hM (lz_46 hM) (vp_in_iff.mpr (by decide)) d_M_tell_93 (fun m_93 H locs e_93 hM => ?_)
      have e_f : f_M_tell μ a1 a2 a3 a4 = m_93 := by
        subst e_93 e_53 e_43 e_34 e_26 e_18
        exact (if_neg c_55).trans ((if_neg c_64).trans rfl)
      rw [e_f]
      exact W.vret hx hb hr (fun t ht hW => ⟨rfl, hM.end ht⟩) hM.2.2.1 d_M_tell_94
  · skip
    refine lv_iconst (v := (1 : Int32)) hx hb d_M_tell_58 (by decide) ?_
    refine lv_goto (tgt := 81) hx hb d_M_tell_59 (by decide) ?_
    refine lv_istore (lv' := [(7, .int (1 : Int32)), (6, .int ((μ.1 46 0 (0 : Int32).toNatClampNeg) - (μ.1 46 0 (0 : Int32).toNatClampNeg) / (40 : Int32) * (40 : Int32))), (0, .ref (τ.1 20 0)), (1, .int a1), (2, .int a2), (3, .int a3), (4, .long a4)]) hx hb d_M_tell_81 hl (by decide) rfl (fun ls hl => ?_)
    refine lv_aload_n hx hb d_M_tell_83 rfl (lv_at hl 2 rfl) ?_
    refine gf_M_84 hx hb hts hown hT hM (lz_20 hM) d_M_tell_84 ?_
    refine lv_iload hx hb d_M_tell_87 (lv_at hl 0 rfl) ?_
    refine lv_dup2_11 hx hb d_M_tell_89 rfl rfl ?_
    refine al_46 hx hb hT hM (lz_46 hM) (vp_in_iff.mpr (by decide)) d_M_tell_90 ?_
    refine lv_iconst (v := (1 : Int32)) hx hb d_M_tell_91 (by decide) ?_
    refine lv_iadd hx hb d_M_tell_92 ?_
    refine as_46 hx hb hT hM (lz_46 hM) (vp_in_iff.mpr (by decide)) d_M_tell_93 (fun m_93 H locs e_93 hM => ?_)
    have e_f : f_M_tell μ a1 a2 a3 a4 = m_93 := by
      subst e_93 e_53 e_43 e_34 e_26 e_18
      exact (if_pos c_55).trans rfl
    rw [e_f]
    exact W.vret hx hb hr (fun t ht hW => ⟨rfl, hM.end ht⟩) hM.2.2.1 d_M_tell_94
set_option maxHeartbeats 4000000 in
set_option maxRecDepth 100000 in
theorem c_M_refusal (l : Launch) (G : mG) (τ : mTau) (μ : mMem) (a1 : Int32) (a2 : Int32) (a3 : Int64) (hJ : iM μ) : Met l y_M_refusal w_M_refusal r_M_refusal (mPc G τ μ [.ref (τ.1 20 0), .int a1, .int a2, .long a3]) (mQ G τ (some (.int (f_M_refusal μ a1 a2 a3))) μ) 0 0 (fun q => G.2.2.1 ≤ q) := by
  refine Met.ofW (cc := b_M_refusal) (maxL := 6) (ret := (some .int)) (by decide) rfl ?_
  intro p e s m args below meth c s₁ B hml hv
  obtain ⟨rfl, hT, hM⟩ := hv
  have hx := B.exec
  have hb := B.bytes
  have hr := B.returns
  have hts : ∀ w ∈ gG, w.before _ s = true := fun w h => atoms_spec (ws := w_M_refusal) B.pre w (List.mem_cons_of_mem _ h)
  have hown : s.vm.findClass R_M = some m.cls := findClass_of_methodNamed B.named
  have hlocks := B.notSynchronized
  have hl := lv_entry ([.ref (τ.1 20 0), .int a1, .int a2, .long a3]) (n := 6) (Nat.le_of_ble_eq_true rfl)
  rw [lg_entry_eq]
  skip
  generalize (lg_sl ([.ref (τ.1 20 0), .int a1, .int a2, .long a3]) ++ List.replicate (6 - (lg_sl ([.ref (τ.1 20 0), .int a1, .int a2, .long a3])).length) Slot.unset).toArray = ls at hl ⊢
  have hl : lv_has ls 6 [(0, .ref (τ.1 20 0)), (1, .int a1), (2, .int a2), (3, .long a3)] := hl
  refine lv_aload_n hx hb d_M_refusal_0 rfl (lv_at hl 0 rfl) ?_
  refine lv_iload_n hx hb d_M_refusal_1 rfl (lv_at hl 1 rfl) ?_
  refine q_M_110 hx hb hml hown hts hT hM (lz_20 hM) (c_M_isDefined l G τ μ a1) ⟨Nat.le_of_ble_eq_true rfl, Nat.le_of_ble_eq_true rfl⟩ ⟨Nat.zero_le _, Nat.zero_le _⟩ (lv_room (Nat.le_of_ble_eq_true rfl)) hl.1 d_M_refusal_2 (fun H locs hM => ?_)
  refine lv_if_eq (tgt := 31) hx hb d_M_refusal_5 (by decide) (fun c_5 => ?_) (fun c_5 => ?_)
  · skip
    refine lv_iconst (v := (-1 : Int32)) hx hb d_M_refusal_31 (by decide) ?_
    have e_f : f_M_refusal μ a1 a2 a3 = (-1 : Int32) := by
      exact (if_pos c_5).trans rfl
    rw [e_f]
    exact W.iret (v := (-1 : Int32)) hx hb hr (fun t ht hW => ⟨rfl, hM.end ht⟩) hM.2.2.1 d_M_refusal_32
  · skip
    have hd := md_in c_5
    refine lv_aload_n hx hb d_M_refusal_8 rfl (lv_at hl 0 rfl) ?_
    refine lv_iload_n hx hb d_M_refusal_9 rfl (lv_at hl 2 rfl) ?_
    refine q_M_97 hx hb hml hown hts hT hM (lz_20 hM) (c_M_isThing l G τ μ a2 (hJ)) ⟨Nat.le_of_ble_eq_true rfl, Nat.le_of_ble_eq_true rfl⟩ ⟨Nat.zero_le _, Nat.zero_le _⟩ (lv_room (Nat.le_of_ble_eq_true rfl)) hl.1 d_M_refusal_10 (fun H locs hM => ?_)
    refine lv_if_eq (tgt := 31) hx hb d_M_refusal_13 (by decide) (fun c_13 => ?_) (fun c_13 => ?_)
    · skip
      refine lv_iconst (v := (-1 : Int32)) hx hb d_M_refusal_31 (by decide) ?_
      have e_f : f_M_refusal μ a1 a2 a3 = (-1 : Int32) := by
        exact (if_neg c_5).trans ((if_pos c_13).trans rfl)
      rw [e_f]
      exact W.iret (v := (-1 : Int32)) hx hb hr (fun t ht hW => ⟨rfl, hM.end ht⟩) hM.2.2.1 d_M_refusal_32
    · skip
      have ht := mt_in hJ c_13
      refine lv_aload_n hx hb d_M_refusal_16 rfl (lv_at hl 0 rfl) ?_
      refine gf_M_7 hx hb hts hown hT hM (lz_20 hM) d_M_refusal_17 ?_
      refine lv_iload_n hx hb d_M_refusal_20 rfl (lv_at hl 2 rfl) ?_
      refine al_22 hx hb hT hM (lz_22 hM) (by first | assumption | exact vin 60 (b := 60) (by decide) (by assumption) (by assumption)) d_M_refusal_21 ?_
      refine lv_aload_n hx hb d_M_refusal_22 rfl (lv_at hl 0 rfl) ?_
      refine gf_M_48 hx hb hts hown hT hM (lz_20 hM) d_M_refusal_23 ?_
      refine lv_iload_n hx hb d_M_refusal_26 rfl (lv_at hl 1 rfl) ?_
      refine al_34 hx hb hT hM (lz_34 hM) (by first | assumption | exact vin 12 (b := 12) (by decide) (by assumption) (by assumption)) d_M_refusal_27 ?_
      refine lv_icmp_eq (tgt := 33) hx hb d_M_refusal_28 (by decide) (fun c_28 => ?_) (fun c_28 => ?_)
      · skip
        refine lv_lload_n hx hb d_M_refusal_33 rfl (lv_at hl 3 rfl) ?_
        refine lv_aload_n hx hb d_M_refusal_34 rfl (lv_at hl 0 rfl) ?_
        refine gf_M_66 hx hb hts hown hT hM (lz_20 hM) d_M_refusal_35 ?_
        refine lv_iload_n hx hb d_M_refusal_38 rfl (lv_at hl 1 rfl) ?_
        refine al_40 hx hb hT hM (lz_40 hM) (by first | assumption | exact vin 12 (b := 12) (by decide) (by assumption) (by assumption)) d_M_refusal_39 ?_
        refine W.lcmp hx hb d_M_refusal_40 ?_
        refine lv_if_lt (tgt := 55) hx hb d_M_refusal_41 (by decide) (fun c_41 => ?_) (fun c_41 => ?_)
        · skip
          refine lv_bipush (v := (-2 : Int32)) hx hb d_M_refusal_55 (by decide) ?_
          have e_f : f_M_refusal μ a1 a2 a3 = (-2 : Int32) := by
            exact (if_neg c_5).trans ((if_neg c_13).trans ((if_pos c_28).trans ((if_pos c_41).trans rfl)))
          rw [e_f]
          exact W.iret (v := (-2 : Int32)) hx hb hr (fun t ht hW => ⟨rfl, hM.end ht⟩) hM.2.2.1 d_M_refusal_57
        · skip
          refine lv_lload_n hx hb d_M_refusal_44 rfl (lv_at hl 3 rfl) ?_
          refine lv_aload_n hx hb d_M_refusal_45 rfl (lv_at hl 0 rfl) ?_
          refine gf_M_69 hx hb hts hown hT hM (lz_20 hM) d_M_refusal_46 ?_
          refine lv_iload_n hx hb d_M_refusal_49 rfl (lv_at hl 1 rfl) ?_
          refine al_41 hx hb hT hM (lz_41 hM) (by first | assumption | exact vin 12 (b := 12) (by decide) (by assumption) (by assumption)) d_M_refusal_50 ?_
          refine W.lcmp hx hb d_M_refusal_51 ?_
          refine lv_if_le (tgt := 58) hx hb d_M_refusal_52 (by decide) (fun c_52 => ?_) (fun c_52 => ?_)
          · skip
            refine lv_aload_n hx hb d_M_refusal_58 rfl (lv_at hl 0 rfl) ?_
            refine gf_M_51 hx hb hts hown hT hM (lz_20 hM) d_M_refusal_59 ?_
            refine lv_iload_n hx hb d_M_refusal_62 rfl (lv_at hl 1 rfl) ?_
            refine al_35 hx hb hT hM (lz_35 hM) (by first | assumption | exact vin 12 (b := 12) (by decide) (by assumption) (by assumption)) d_M_refusal_63 ?_
            refine lv_iconst (v := (-1 : Int32)) hx hb d_M_refusal_64 (by decide) ?_
            refine lv_icmp_ne (tgt := 70) hx hb d_M_refusal_65 (by decide) (fun c_65 => ?_) (fun c_65 => ?_)
            · skip
              refine lv_aload_n hx hb d_M_refusal_70 rfl (lv_at hl 0 rfl) ?_
              refine gf_M_38 hx hb hts hown hT hM (lz_20 hM) d_M_refusal_71 ?_
              refine lv_aload_n hx hb d_M_refusal_74 rfl (lv_at hl 0 rfl) ?_
              refine gf_M_51 hx hb hts hown hT hM (lz_20 hM) d_M_refusal_75 ?_
              refine lv_iload_n hx hb d_M_refusal_78 rfl (lv_at hl 1 rfl) ?_
              refine al_35 hx hb hT hM (lz_35 hM) (by first | assumption | exact vin 12 (b := 12) (by decide) (by assumption) (by assumption)) d_M_refusal_79 ?_
              refine al_31 hx hb hT hM (lz_31 hM) (in_wants hJ c_65) d_M_refusal_80 ?_
              refine lv_if_ne (tgt := 87) hx hb d_M_refusal_81 (by decide) (fun c_81 => ?_) (fun c_81 => ?_)
              · skip
                refine lv_aload_n hx hb d_M_refusal_87 rfl (lv_at hl 0 rfl) ?_
                refine gf_M_16 hx hb hts hown hT hM (lz_20 hM) d_M_refusal_88 ?_
                refine lv_iload_n hx hb d_M_refusal_91 rfl (lv_at hl 2 rfl) ?_
                refine al_24 hx hb hT hM (lz_24 hM) (by first | assumption | exact vin 60 (b := 60) (by decide) (by assumption) (by assumption)) d_M_refusal_92 ?_
                refine lv_istore (lv' := [(5, .int (μ.1 24 0 a2.toNatClampNeg)), (0, .ref (τ.1 20 0)), (1, .int a1), (2, .int a2), (3, .long a3)]) hx hb d_M_refusal_93 hl (by decide) rfl (fun ls hl => ?_)
                refine lv_aload_n hx hb d_M_refusal_95 rfl (lv_at hl 1 rfl) ?_
                refine gf_M_19 hx hb hts hown hT hM (lz_20 hM) d_M_refusal_96 ?_
                refine lv_iload hx hb d_M_refusal_99 (lv_at hl 0 rfl) ?_
                refine al_25 hx hb hT hM (lz_25 hM) (hJ.2.1 _) d_M_refusal_101 ?_
                refine lv_if_le (tgt := 122) hx hb d_M_refusal_102 (by decide) (fun c_102 => ?_) (fun c_102 => ?_)
                · skip
                  refine lv_iconst (v := (0 : Int32)) hx hb d_M_refusal_122 (by decide) ?_
                  have e_f : f_M_refusal μ a1 a2 a3 = (0 : Int32) := by
                    exact (if_neg c_5).trans ((if_neg c_13).trans ((if_pos c_28).trans ((if_neg c_41).trans ((if_pos c_52).trans ((if_neg c_65).trans ((if_neg c_81).trans ((if_pos c_102).trans rfl)))))))
                  rw [e_f]
                  exact W.iret (v := (0 : Int32)) hx hb hr (fun t ht hW => ⟨rfl, hM.end ht⟩) hM.2.2.1 d_M_refusal_123
                · skip
                  refine lv_aload_n hx hb d_M_refusal_105 rfl (lv_at hl 1 rfl) ?_
                  refine gf_M_25 hx hb hts hown hT hM (lz_20 hM) d_M_refusal_106 ?_
                  refine lv_iload hx hb d_M_refusal_109 (lv_at hl 0 rfl) ?_
                  refine al_27 hx hb hT hM (lz_27 hM) (hJ.2.1 _) d_M_refusal_111 ?_
                  refine lv_bipush (v := (6 : Int32)) hx hb d_M_refusal_112 (by decide) ?_
                  refine lv_icmp_ne (tgt := 122) hx hb d_M_refusal_114 (by decide) (fun c_114 => ?_) (fun c_114 => ?_)
                  · skip
                    refine lv_iconst (v := (0 : Int32)) hx hb d_M_refusal_122 (by decide) ?_
                    have e_f : f_M_refusal μ a1 a2 a3 = (0 : Int32) := by
                      exact (if_neg c_5).trans ((if_neg c_13).trans ((if_pos c_28).trans ((if_neg c_41).trans ((if_pos c_52).trans ((if_neg c_65).trans ((if_neg c_81).trans ((if_neg c_102).trans ((if_neg c_114).trans rfl))))))))
                    rw [e_f]
                    exact W.iret (v := (0 : Int32)) hx hb hr (fun t ht hW => ⟨rfl, hM.end ht⟩) hM.2.2.1 d_M_refusal_123
                  · skip
                    refine lv_bipush (v := (-4 : Int32)) hx hb d_M_refusal_117 (by decide) ?_
                    refine lv_goto (tgt := 123) hx hb d_M_refusal_119 (by decide) ?_
                    have e_f : f_M_refusal μ a1 a2 a3 = (-4 : Int32) := by
                      exact (if_neg c_5).trans ((if_neg c_13).trans ((if_pos c_28).trans ((if_neg c_41).trans ((if_pos c_52).trans ((if_neg c_65).trans ((if_neg c_81).trans ((if_neg c_102).trans ((if_pos c_114).trans rfl))))))))
                    rw [e_f]
                    exact W.iret (v := (-4 : Int32)) hx hb hr (fun t ht hW => ⟨rfl, hM.end ht⟩) hM.2.2.1 d_M_refusal_123
              · skip
                refine lv_bipush (v := (-3 : Int32)) hx hb d_M_refusal_84 (by decide) ?_
                have e_f : f_M_refusal μ a1 a2 a3 = (-3 : Int32) := by
                  exact (if_neg c_5).trans ((if_neg c_13).trans ((if_pos c_28).trans ((if_neg c_41).trans ((if_pos c_52).trans ((if_neg c_65).trans ((if_pos c_81).trans rfl))))))
                rw [e_f]
                exact W.iret (v := (-3 : Int32)) hx hb hr (fun t ht hW => ⟨rfl, hM.end ht⟩) hM.2.2.1 d_M_refusal_86
            · skip
              refine lv_iconst (v := (0 : Int32)) hx hb d_M_refusal_68 (by decide) ?_
              have e_f : f_M_refusal μ a1 a2 a3 = (0 : Int32) := by
                exact (if_neg c_5).trans ((if_neg c_13).trans ((if_pos c_28).trans ((if_neg c_41).trans ((if_pos c_52).trans ((if_pos c_65).trans rfl)))))
              rw [e_f]
              exact W.iret (v := (0 : Int32)) hx hb hr (fun t ht hW => ⟨rfl, hM.end ht⟩) hM.2.2.1 d_M_refusal_69
          · skip
            refine lv_bipush (v := (-2 : Int32)) hx hb d_M_refusal_55 (by decide) ?_
            have e_f : f_M_refusal μ a1 a2 a3 = (-2 : Int32) := by
              exact (if_neg c_5).trans ((if_neg c_13).trans ((if_pos c_28).trans ((if_neg c_41).trans ((if_neg c_52).trans rfl))))
            rw [e_f]
            exact W.iret (v := (-2 : Int32)) hx hb hr (fun t ht hW => ⟨rfl, hM.end ht⟩) hM.2.2.1 d_M_refusal_57
      · skip
        refine lv_iconst (v := (-1 : Int32)) hx hb d_M_refusal_31 (by decide) ?_
        have e_f : f_M_refusal μ a1 a2 a3 = (-1 : Int32) := by
          exact (if_neg c_5).trans ((if_neg c_13).trans ((if_neg c_28).trans rfl))
        rw [e_f]
        exact W.iret (v := (-1 : Int32)) hx hb hr (fun t ht hW => ⟨rfl, hM.end ht⟩) hM.2.2.1 d_M_refusal_32
set_option maxHeartbeats 4000000 in
set_option maxRecDepth 100000 in
theorem c_M_call (l : Launch) (G : mG) (τ : mTau) (μ : mMem) (a1 : Int32) (a2 : Int32) (a3 : Int64) (hJ : iM μ) (hk : 0 ≤ (μ.1 46 0 0).toInt) : Met l y_M_call w_M_call r_M_call (mPc G τ μ [.ref (τ.1 20 0), .int a1, .int a2, .long a3]) (mQ G τ (some (.long (f_M_call μ a1 a2 a3).1)) (f_M_call μ a1 a2 a3).2) 0 0 (fun q => G.2.2.1 ≤ q) := by
  refine Met.ofW (cc := b_M_call) (maxL := 12) (ret := (some .long)) (by decide) rfl ?_
  intro p e s m args below meth c s₁ B hml hv
  obtain ⟨rfl, hT, hM⟩ := hv
  have hx := B.exec
  have hb := B.bytes
  have hr := B.returns
  have hts : ∀ w ∈ gG, w.before _ s = true := fun w h => atoms_spec (ws := w_M_call) B.pre w (List.mem_cons_of_mem _ h)
  have hown : s.vm.findClass R_M = some m.cls := findClass_of_methodNamed B.named
  have hlocks := B.notSynchronized
  have hl := lv_entry ([.ref (τ.1 20 0), .int a1, .int a2, .long a3]) (n := 12) (Nat.le_of_ble_eq_true rfl)
  rw [lg_entry_eq]
  skip
  generalize (lg_sl ([.ref (τ.1 20 0), .int a1, .int a2, .long a3]) ++ List.replicate (12 - (lg_sl ([.ref (τ.1 20 0), .int a1, .int a2, .long a3])).length) Slot.unset).toArray = ls at hl ⊢
  have hl : lv_has ls 12 [(0, .ref (τ.1 20 0)), (1, .int a1), (2, .int a2), (3, .long a3)] := hl
  refine lv_aload_n hx hb d_M_call_0 rfl (lv_at hl 0 rfl) ?_
  refine lv_iconst (v := (0 : Int32)) hx hb d_M_call_1 (by decide) ?_
  refine pf_M_90 hx hb hts hown hT hM (lz_20 hM) d_M_call_2 (fun m_2 H locs e_2 hM => ?_)
  have hJ : iM m_2 := by rw [e_2]; exact iM_I hJ rfl
  refine lv_aload_n hx hb d_M_call_5 rfl (lv_at hl 0 rfl) ?_
  refine lv_iload_n hx hb d_M_call_6 rfl (lv_at hl 1 rfl) ?_
  refine lv_iload_n hx hb d_M_call_7 rfl (lv_at hl 2 rfl) ?_
  refine lv_lload_n hx hb d_M_call_8 rfl (lv_at hl 3 rfl) ?_
  refine q_M_120 hx hb hml hown hts hT hM (lz_20 hM) (c_M_refusal l G τ m_2 a1 a2 a3 (hJ)) ⟨Nat.le_of_ble_eq_true rfl, Nat.le_of_ble_eq_true rfl⟩ ⟨Nat.zero_le _, Nat.zero_le _⟩ (lv_room (Nat.le_of_ble_eq_true rfl)) hl.1 d_M_call_9 (fun H locs hM => ?_)
  refine lv_istore (lv' := [(5, .int (f_M_refusal m_2 a1 a2 a3)), (0, .ref (τ.1 20 0)), (1, .int a1), (2, .int a2), (3, .long a3)]) hx hb d_M_call_12 hl (by decide) rfl (fun ls hl => ?_)
  refine lv_iload hx hb d_M_call_14 (lv_at hl 0 rfl) ?_
  refine lv_if_eq (tgt := 33) hx hb d_M_call_16 (by decide) (fun c_16 => ?_) (fun c_16 => ?_)
  · skip
    have hd := ref_d c_16
    have ht := ref_t hJ c_16
    have hh := hJ.2.1 a2.toNatClampNeg
    have hJ2 := hJ
    refine lv_aload_n hx hb d_M_call_33 rfl (lv_at hl 1 rfl) ?_
    refine gf_M_51 hx hb hts hown hT hM (lz_20 hM) d_M_call_34 ?_
    refine lv_iload_n hx hb d_M_call_37 rfl (lv_at hl 2 rfl) ?_
    refine al_35 hx hb hT hM (lz_35 hM) (by first | assumption | exact vin 12 (b := 12) (by decide) (by assumption) (by assumption)) d_M_call_38 ?_
    refine lv_iconst (v := (-1 : Int32)) hx hb d_M_call_39 (by decide) ?_
    refine lv_icmp_eq (tgt := 47) hx hb d_M_call_40 (by decide) (fun c_40 => ?_) (fun c_40 => ?_)
    · skip
      refine lv_iconst (v := (0 : Int32)) hx hb d_M_call_47 (by decide) ?_
      refine lv_istore (lv' := [(6, .int (0 : Int32)), (5, .int (f_M_refusal m_2 a1 a2 a3)), (0, .ref (τ.1 20 0)), (1, .int a1), (2, .int a2), (3, .long a3)]) hx hb d_M_call_48 hl (by decide) rfl (fun ls hl => ?_)
      refine lv_iload hx hb d_M_call_50 (lv_at hl 0 rfl) ?_
      refine lv_if_eq (tgt := 70) hx hb d_M_call_52 (by decide) (fun c_52 => ?_) (fun c_52 => ?_)
      · skip
        refine lv_lload_n hx hb d_M_call_70 rfl (lv_at hl 5 rfl) ?_
        refine lv_lstore (lv' := [(7, .long a3), (6, .int (0 : Int32)), (5, .int (f_M_refusal m_2 a1 a2 a3)), (0, .ref (τ.1 20 0)), (1, .int a1), (2, .int a2), (3, .long a3)]) hx hb d_M_call_71 hl (by decide) rfl (fun ls hl => ?_)
        refine lv_aload_n hx hb d_M_call_73 rfl (lv_at hl 3 rfl) ?_
        refine gf_M_16 hx hb hts hown hT hM (lz_20 hM) d_M_call_74 ?_
        refine lv_iload_n hx hb d_M_call_77 rfl (lv_at hl 5 rfl) ?_
        refine al_24 hx hb hT hM (lz_24 hM) (by first | assumption | exact vin 60 (b := 60) (by decide) (by assumption) (by assumption)) d_M_call_78 ?_
        refine lv_istore (lv' := [(9, .int (m_2.1 24 0 a2.toNatClampNeg)), (7, .long a3), (6, .int (0 : Int32)), (5, .int (f_M_refusal m_2 a1 a2 a3)), (0, .ref (τ.1 20 0)), (1, .int a1), (2, .int a2), (3, .long a3)]) hx hb d_M_call_79 hl (by decide) rfl (fun ls hl => ?_)
        refine lv_iload hx hb d_M_call_81 (lv_at hl 2 rfl) ?_
        refine lv_if_eq (tgt := 173) hx hb d_M_call_83 (by decide) (fun c_83 => ?_) (fun c_83 => ?_)
        · skip
          refine lv_aload_n hx hb d_M_call_173 rfl (lv_at hl 4 rfl) ?_
          refine lv_iload_n hx hb d_M_call_174 rfl (lv_at hl 5 rfl) ?_
          refine lv_lload hx hb d_M_call_175 (lv_at hl 1 rfl) ?_
          refine q_M_134 hx hb hml hown hts hT hM (lz_20 hM) (c_M_go l G τ m_2 a1 a3 (hd) (nx5 hJ _)) ⟨Nat.le_of_ble_eq_true rfl, Nat.le_of_ble_eq_true rfl⟩ ⟨Nat.zero_le _, Nat.zero_le _⟩ (lv_room (Nat.le_of_ble_eq_true rfl)) hl.1 d_M_call_177 (fun H locs hM => ?_)
          obtain ⟨m_177, e_177⟩ : ∃ z : mMem, z = (f_M_go m_2 a1 a3) := ⟨_, rfl⟩
          rw [← e_177] at hM
          refine lv_aload_n hx hb d_M_call_180 rfl (lv_at hl 4 rfl) ?_
          refine gf_M_113 hx hb hts hown hT hM (lz_20 hM) d_M_call_181 ?_
          refine lv_if_le (tgt := 199) hx hb d_M_call_184 (by decide) (fun c_184 => ?_) (fun c_184 => ?_)
          · skip
            refine lv_aload_n hx hb d_M_call_199 rfl (lv_at hl 4 rfl) ?_
            refine gf_M_116 hx hb hts hown hT hM (lz_20 hM) d_M_call_200 ?_
            refine lv_lstore (lv' := [(10, .long (m_177.2 20 0 29)), (9, .int (m_2.1 24 0 a2.toNatClampNeg)), (7, .long a3), (6, .int (0 : Int32)), (5, .int (f_M_refusal m_2 a1 a2 a3)), (0, .ref (τ.1 20 0)), (1, .int a1), (2, .int a2), (3, .long a3)]) hx hb d_M_call_203 hl (by decide) rfl (fun ls hl => ?_)
            refine lv_iload hx hb d_M_call_205 (lv_at hl 3 rfl) ?_
            refine lv_if_eq (tgt := 229) hx hb d_M_call_207 (by decide) (fun c_207 => ?_) (fun c_207 => ?_)
            · skip
              refine lv_aload_n hx hb d_M_call_229 rfl (lv_at hl 5 rfl) ?_
              refine lv_aload_n hx hb d_M_call_230 rfl (lv_at hl 5 rfl) ?_
              refine gf_M_113 hx hb hts hown hT hM (lz_20 hM) d_M_call_231 ?_
              refine lv_iload_n hx hb d_M_call_234 rfl (lv_at hl 7 rfl) ?_
              refine lv_iload_n hx hb d_M_call_235 rfl (lv_at hl 6 rfl) ?_
              refine lv_lload hx hb d_M_call_236 (lv_at hl 0 rfl) ?_
              refine q_M_124 hx hb hml hown hts hT hM (lz_20 hM) (c_M_tell l G τ m_177 (m_177.1 20 0 28) a2 a1 (m_177.2 20 0 29) (by first | (rw [e_177, go_46, e_2]; exact hk) | (rw [e_228, e_177]; show 0 ≤ ((f_M_go _ _ _).1 46 0 0).toInt; rw [go_46, e_2]; exact hk))) ⟨Nat.le_of_ble_eq_true rfl, Nat.le_of_ble_eq_true rfl⟩ ⟨Nat.zero_le _, Nat.zero_le _⟩ (lv_room (Nat.le_of_ble_eq_true rfl)) hl.1 d_M_call_238 (fun H locs hM => ?_)
              obtain ⟨m_238, e_238⟩ : ∃ z : mMem, z = (f_M_tell m_177 (m_177.1 20 0 28) a2 a1 (m_177.2 20 0 29)) := ⟨_, rfl⟩
              rw [← e_238] at hM
              refine lv_lload hx hb d_M_call_241 (lv_at hl 0 rfl) ?_
              have e_f : f_M_call μ a1 a2 a3 = (m_177.2 20 0 29, m_238) := by
                subst e_238 e_177 e_2
                exact (if_pos c_16).trans ((if_pos c_40).trans ((if_pos c_184).trans rfl))
              rw [e_f]
              exact W.lret (v := m_177.2 20 0 29) hx hb hr (fun t ht hW => ⟨rfl, hM.end ht⟩) hM.2.2.1 d_M_call_243
            · exact absurd (by decide) c_207
          · skip
            refine lv_ldc2 (v := (-10 : Int64)) hx hb hown (hts _ kw_constantLong_M_138__10) d_M_call_187 ?_
            refine lv_aload_n hx hb d_M_call_190 rfl (lv_at hl 4 rfl) ?_
            refine gf_M_113 hx hb hts hown hT hM (lz_20 hM) d_M_call_191 ?_
            refine lv_i2l hx hb d_M_call_194 rfl ?_
            refine lv_lsub hx hb d_M_call_195 ?_
            refine lv_goto (tgt := 203) hx hb d_M_call_196 (by decide) ?_
            refine lv_lstore (lv' := [(10, .long ((-10 : Int64) - ((m_177.1 20 0 28).toInt64))), (9, .int (m_2.1 24 0 a2.toNatClampNeg)), (7, .long a3), (6, .int (0 : Int32)), (5, .int (f_M_refusal m_2 a1 a2 a3)), (0, .ref (τ.1 20 0)), (1, .int a1), (2, .int a2), (3, .long a3)]) hx hb d_M_call_203 hl (by decide) rfl (fun ls hl => ?_)
            refine lv_iload hx hb d_M_call_205 (lv_at hl 3 rfl) ?_
            refine lv_if_eq (tgt := 229) hx hb d_M_call_207 (by decide) (fun c_207 => ?_) (fun c_207 => ?_)
            · skip
              refine lv_aload_n hx hb d_M_call_229 rfl (lv_at hl 5 rfl) ?_
              refine lv_aload_n hx hb d_M_call_230 rfl (lv_at hl 5 rfl) ?_
              refine gf_M_113 hx hb hts hown hT hM (lz_20 hM) d_M_call_231 ?_
              refine lv_iload_n hx hb d_M_call_234 rfl (lv_at hl 7 rfl) ?_
              refine lv_iload_n hx hb d_M_call_235 rfl (lv_at hl 6 rfl) ?_
              refine lv_lload hx hb d_M_call_236 (lv_at hl 0 rfl) ?_
              refine q_M_124 hx hb hml hown hts hT hM (lz_20 hM) (c_M_tell l G τ m_177 (m_177.1 20 0 28) a2 a1 ((-10 : Int64) - ((m_177.1 20 0 28).toInt64)) (by first | (rw [e_177, go_46, e_2]; exact hk) | (rw [e_228, e_177]; show 0 ≤ ((f_M_go _ _ _).1 46 0 0).toInt; rw [go_46, e_2]; exact hk))) ⟨Nat.le_of_ble_eq_true rfl, Nat.le_of_ble_eq_true rfl⟩ ⟨Nat.zero_le _, Nat.zero_le _⟩ (lv_room (Nat.le_of_ble_eq_true rfl)) hl.1 d_M_call_238 (fun H locs hM => ?_)
              obtain ⟨m_238, e_238⟩ : ∃ z : mMem, z = (f_M_tell m_177 (m_177.1 20 0 28) a2 a1 ((-10 : Int64) - ((m_177.1 20 0 28).toInt64))) := ⟨_, rfl⟩
              rw [← e_238] at hM
              refine lv_lload hx hb d_M_call_241 (lv_at hl 0 rfl) ?_
              have e_f : f_M_call μ a1 a2 a3 = ((-10 : Int64) - ((m_177.1 20 0 28).toInt64), m_238) := by
                subst e_238 e_177 e_2
                exact (if_pos c_16).trans ((if_pos c_40).trans ((if_neg c_184).trans rfl))
              rw [e_f]
              exact W.lret (v := (-10 : Int64) - ((m_177.1 20 0 28).toInt64)) hx hb hr (fun t ht hW => ⟨rfl, hM.end ht⟩) hM.2.2.1 d_M_call_243
            · exact absurd (by decide) c_207
        · exact absurd (by decide) c_83
      · exact absurd (by decide) c_52
    · skip
      refine lv_iconst (v := (1 : Int32)) hx hb d_M_call_43 (by decide) ?_
      refine lv_goto (tgt := 48) hx hb d_M_call_44 (by decide) ?_
      refine lv_istore (lv' := [(6, .int (1 : Int32)), (5, .int (f_M_refusal m_2 a1 a2 a3)), (0, .ref (τ.1 20 0)), (1, .int a1), (2, .int a2), (3, .long a3)]) hx hb d_M_call_48 hl (by decide) rfl (fun ls hl => ?_)
      refine lv_iload hx hb d_M_call_50 (lv_at hl 0 rfl) ?_
      refine lv_if_eq (tgt := 70) hx hb d_M_call_52 (by decide) (fun c_52 => ?_) (fun c_52 => ?_)
      · exact absurd c_52 (by decide)
      · skip
        refine lv_lload_n hx hb d_M_call_55 rfl (lv_at hl 5 rfl) ?_
        refine lv_aload_n hx hb d_M_call_56 rfl (lv_at hl 2 rfl) ?_
        refine lv_aload_n hx hb d_M_call_57 rfl (lv_at hl 2 rfl) ?_
        refine gf_M_51 hx hb hts hown hT hM (lz_20 hM) d_M_call_58 ?_
        refine lv_iload_n hx hb d_M_call_61 rfl (lv_at hl 3 rfl) ?_
        refine al_35 hx hb hT hM (lz_35 hM) (by first | assumption | exact vin 12 (b := 12) (by decide) (by assumption) (by assumption)) d_M_call_62 ?_
        refine q_M_128 hx hb hml hown hts hT hM (lz_20 hM) (c_M_sumOf l G τ m_2 (m_2.1 35 0 a1.toNatClampNeg) (hJ) (in_wants1 hJ c_40)) ⟨Nat.le_of_ble_eq_true rfl, Nat.le_of_ble_eq_true rfl⟩ ⟨Nat.zero_le _, Nat.zero_le _⟩ (lv_room (Nat.le_of_ble_eq_true rfl)) hl.1 d_M_call_63 (fun H locs hM => ?_)
        refine lv_ladd hx hb d_M_call_66 ?_
        refine lv_goto (tgt := 71) hx hb d_M_call_67 (by decide) ?_
        refine lv_lstore (lv' := [(7, .long (a3 + (f_M_sumOf m_2 (m_2.1 35 0 a1.toNatClampNeg)))), (6, .int (1 : Int32)), (5, .int (f_M_refusal m_2 a1 a2 a3)), (0, .ref (τ.1 20 0)), (1, .int a1), (2, .int a2), (3, .long a3)]) hx hb d_M_call_71 hl (by decide) rfl (fun ls hl => ?_)
        refine lv_aload_n hx hb d_M_call_73 rfl (lv_at hl 3 rfl) ?_
        refine gf_M_16 hx hb hts hown hT hM (lz_20 hM) d_M_call_74 ?_
        refine lv_iload_n hx hb d_M_call_77 rfl (lv_at hl 5 rfl) ?_
        refine al_24 hx hb hT hM (lz_24 hM) (by first | assumption | exact vin 60 (b := 60) (by decide) (by assumption) (by assumption)) d_M_call_78 ?_
        refine lv_istore (lv' := [(9, .int (m_2.1 24 0 a2.toNatClampNeg)), (7, .long (a3 + (f_M_sumOf m_2 (m_2.1 35 0 a1.toNatClampNeg)))), (6, .int (1 : Int32)), (5, .int (f_M_refusal m_2 a1 a2 a3)), (0, .ref (τ.1 20 0)), (1, .int a1), (2, .int a2), (3, .long a3)]) hx hb d_M_call_79 hl (by decide) rfl (fun ls hl => ?_)
        refine lv_iload hx hb d_M_call_81 (lv_at hl 2 rfl) ?_
        refine lv_if_eq (tgt := 173) hx hb d_M_call_83 (by decide) (fun c_83 => ?_) (fun c_83 => ?_)
        · exact absurd c_83 (by decide)
        · skip
          refine lv_aload_n hx hb d_M_call_86 rfl (lv_at hl 4 rfl) ?_
          refine gf_M_19 hx hb hts hown hT hM (lz_20 hM) d_M_call_87 ?_
          refine lv_iload hx hb d_M_call_90 (lv_at hl 0 rfl) ?_
          refine al_25 hx hb hT hM (lz_25 hM) (hh) d_M_call_92 ?_
          refine lv_if_le (tgt := 173) hx hb d_M_call_93 (by decide) (fun c_93 => ?_) (fun c_93 => ?_)
          · skip
            refine lv_aload_n hx hb d_M_call_173 rfl (lv_at hl 4 rfl) ?_
            refine lv_iload_n hx hb d_M_call_174 rfl (lv_at hl 5 rfl) ?_
            refine lv_lload hx hb d_M_call_175 (lv_at hl 1 rfl) ?_
            refine q_M_134 hx hb hml hown hts hT hM (lz_20 hM) (c_M_go l G τ m_2 a1 (a3 + (f_M_sumOf m_2 (m_2.1 35 0 a1.toNatClampNeg))) (hd) (nx5 hJ _)) ⟨Nat.le_of_ble_eq_true rfl, Nat.le_of_ble_eq_true rfl⟩ ⟨Nat.zero_le _, Nat.zero_le _⟩ (lv_room (Nat.le_of_ble_eq_true rfl)) hl.1 d_M_call_177 (fun H locs hM => ?_)
            obtain ⟨m_177, e_177⟩ : ∃ z : mMem, z = (f_M_go m_2 a1 (a3 + (f_M_sumOf m_2 (m_2.1 35 0 a1.toNatClampNeg)))) := ⟨_, rfl⟩
            rw [← e_177] at hM
            refine lv_aload_n hx hb d_M_call_180 rfl (lv_at hl 4 rfl) ?_
            refine gf_M_113 hx hb hts hown hT hM (lz_20 hM) d_M_call_181 ?_
            refine lv_if_le (tgt := 199) hx hb d_M_call_184 (by decide) (fun c_184 => ?_) (fun c_184 => ?_)
            · skip
              refine lv_aload_n hx hb d_M_call_199 rfl (lv_at hl 4 rfl) ?_
              refine gf_M_116 hx hb hts hown hT hM (lz_20 hM) d_M_call_200 ?_
              refine lv_lstore (lv' := [(10, .long (m_177.2 20 0 29)), (9, .int (m_2.1 24 0 a2.toNatClampNeg)), (7, .long (a3 + (f_M_sumOf m_2 (m_2.1 35 0 a1.toNatClampNeg)))), (6, .int (1 : Int32)), (5, .int (f_M_refusal m_2 a1 a2 a3)), (0, .ref (τ.1 20 0)), (1, .int a1), (2, .int a2), (3, .long a3)]) hx hb d_M_call_203 hl (by decide) rfl (fun ls hl => ?_)
              refine lv_iload hx hb d_M_call_205 (lv_at hl 3 rfl) ?_
              refine lv_if_eq (tgt := 229) hx hb d_M_call_207 (by decide) (fun c_207 => ?_) (fun c_207 => ?_)
              · exact absurd c_207 (by decide)
              · skip
                refine lv_aload_n hx hb d_M_call_210 rfl (lv_at hl 5 rfl) ?_
                refine gf_M_113 hx hb hts hown hT hM (lz_20 hM) d_M_call_211 ?_
                refine lv_if_ne (tgt := 229) hx hb d_M_call_214 (by decide) (fun c_214 => ?_) (fun c_214 => ?_)
                · skip
                  refine lv_aload_n hx hb d_M_call_229 rfl (lv_at hl 5 rfl) ?_
                  refine lv_aload_n hx hb d_M_call_230 rfl (lv_at hl 5 rfl) ?_
                  refine gf_M_113 hx hb hts hown hT hM (lz_20 hM) d_M_call_231 ?_
                  refine lv_iload_n hx hb d_M_call_234 rfl (lv_at hl 7 rfl) ?_
                  refine lv_iload_n hx hb d_M_call_235 rfl (lv_at hl 6 rfl) ?_
                  refine lv_lload hx hb d_M_call_236 (lv_at hl 0 rfl) ?_
                  refine q_M_124 hx hb hml hown hts hT hM (lz_20 hM) (c_M_tell l G τ m_177 (m_177.1 20 0 28) a2 a1 (m_177.2 20 0 29) (by first | (rw [e_177, go_46, e_2]; exact hk) | (rw [e_228, e_177]; show 0 ≤ ((f_M_go _ _ _).1 46 0 0).toInt; rw [go_46, e_2]; exact hk))) ⟨Nat.le_of_ble_eq_true rfl, Nat.le_of_ble_eq_true rfl⟩ ⟨Nat.zero_le _, Nat.zero_le _⟩ (lv_room (Nat.le_of_ble_eq_true rfl)) hl.1 d_M_call_238 (fun H locs hM => ?_)
                  obtain ⟨m_238, e_238⟩ : ∃ z : mMem, z = (f_M_tell m_177 (m_177.1 20 0 28) a2 a1 (m_177.2 20 0 29)) := ⟨_, rfl⟩
                  rw [← e_238] at hM
                  refine lv_lload hx hb d_M_call_241 (lv_at hl 0 rfl) ?_
                  have e_f : f_M_call μ a1 a2 a3 = (m_177.2 20 0 29, m_238) := by
                    subst e_238 e_177 e_2
                    exact (if_pos c_16).trans ((if_neg c_40).trans ((if_pos c_93).trans ((if_pos c_184).trans ((if_neg c_214).trans rfl))))
                  rw [e_f]
                  exact W.lret (v := m_177.2 20 0 29) hx hb hr (fun t ht hW => ⟨rfl, hM.end ht⟩) hM.2.2.1 d_M_call_243
                · skip
                  refine lv_aload_n hx hb d_M_call_217 rfl (lv_at hl 5 rfl) ?_
                  refine gf_M_38 hx hb hts hown hT hM (lz_20 hM) d_M_call_218 ?_
                  refine lv_aload_n hx hb d_M_call_221 rfl (lv_at hl 5 rfl) ?_
                  refine gf_M_51 hx hb hts hown hT hM (lz_20 hM) d_M_call_222 ?_
                  refine lv_iload_n hx hb d_M_call_225 rfl (lv_at hl 6 rfl) ?_
                  refine al_35 hx hb hT hM (lz_35 hM) (by first | assumption | exact vin 12 (b := 12) (by decide) (by assumption) (by assumption)) d_M_call_226 ?_
                  refine lv_iconst (v := (0 : Int32)) hx hb d_M_call_227 (by decide) ?_
                  refine as_31 hx hb hT hM (lz_31 hM) (by rw [e_177, go_35]; exact in_wants hJ2 c_40) d_M_call_228 (fun m_228 H locs e_228 hM => ?_)
                  refine lv_aload_n hx hb d_M_call_229 rfl (lv_at hl 5 rfl) ?_
                  refine lv_aload_n hx hb d_M_call_230 rfl (lv_at hl 5 rfl) ?_
                  refine gf_M_113 hx hb hts hown hT hM (lz_20 hM) d_M_call_231 ?_
                  refine lv_iload_n hx hb d_M_call_234 rfl (lv_at hl 7 rfl) ?_
                  refine lv_iload_n hx hb d_M_call_235 rfl (lv_at hl 6 rfl) ?_
                  refine lv_lload hx hb d_M_call_236 (lv_at hl 0 rfl) ?_
                  refine q_M_124 hx hb hml hown hts hT hM (lz_20 hM) (c_M_tell l G τ m_228 (m_228.1 20 0 28) a2 a1 (m_177.2 20 0 29) (by first | (rw [e_177, go_46, e_2]; exact hk) | (rw [e_228, e_177]; show 0 ≤ ((f_M_go _ _ _).1 46 0 0).toInt; rw [go_46, e_2]; exact hk))) ⟨Nat.le_of_ble_eq_true rfl, Nat.le_of_ble_eq_true rfl⟩ ⟨Nat.zero_le _, Nat.zero_le _⟩ (lv_room (Nat.le_of_ble_eq_true rfl)) hl.1 d_M_call_238 (fun H locs hM => ?_)
                  obtain ⟨m_238, e_238⟩ : ∃ z : mMem, z = (f_M_tell m_228 (m_228.1 20 0 28) a2 a1 (m_177.2 20 0 29)) := ⟨_, rfl⟩
                  rw [← e_238] at hM
                  refine lv_lload hx hb d_M_call_241 (lv_at hl 0 rfl) ?_
                  have e_f : f_M_call μ a1 a2 a3 = (m_177.2 20 0 29, m_238) := by
                    subst e_238 e_228 e_177 e_2
                    exact (if_pos c_16).trans ((if_neg c_40).trans ((if_pos c_93).trans ((if_pos c_184).trans ((if_pos c_214).trans rfl))))
                  rw [e_f]
                  exact W.lret (v := m_177.2 20 0 29) hx hb hr (fun t ht hW => ⟨rfl, hM.end ht⟩) hM.2.2.1 d_M_call_243
            · skip
              refine lv_ldc2 (v := (-10 : Int64)) hx hb hown (hts _ kw_constantLong_M_138__10) d_M_call_187 ?_
              refine lv_aload_n hx hb d_M_call_190 rfl (lv_at hl 4 rfl) ?_
              refine gf_M_113 hx hb hts hown hT hM (lz_20 hM) d_M_call_191 ?_
              refine lv_i2l hx hb d_M_call_194 rfl ?_
              refine lv_lsub hx hb d_M_call_195 ?_
              refine lv_goto (tgt := 203) hx hb d_M_call_196 (by decide) ?_
              refine lv_lstore (lv' := [(10, .long ((-10 : Int64) - ((m_177.1 20 0 28).toInt64))), (9, .int (m_2.1 24 0 a2.toNatClampNeg)), (7, .long (a3 + (f_M_sumOf m_2 (m_2.1 35 0 a1.toNatClampNeg)))), (6, .int (1 : Int32)), (5, .int (f_M_refusal m_2 a1 a2 a3)), (0, .ref (τ.1 20 0)), (1, .int a1), (2, .int a2), (3, .long a3)]) hx hb d_M_call_203 hl (by decide) rfl (fun ls hl => ?_)
              refine lv_iload hx hb d_M_call_205 (lv_at hl 3 rfl) ?_
              refine lv_if_eq (tgt := 229) hx hb d_M_call_207 (by decide) (fun c_207 => ?_) (fun c_207 => ?_)
              · exact absurd c_207 (by decide)
              · skip
                refine lv_aload_n hx hb d_M_call_210 rfl (lv_at hl 5 rfl) ?_
                refine gf_M_113 hx hb hts hown hT hM (lz_20 hM) d_M_call_211 ?_
                refine lv_if_ne (tgt := 229) hx hb d_M_call_214 (by decide) (fun c_214 => ?_) (fun c_214 => ?_)
                · skip
                  refine lv_aload_n hx hb d_M_call_229 rfl (lv_at hl 5 rfl) ?_
                  refine lv_aload_n hx hb d_M_call_230 rfl (lv_at hl 5 rfl) ?_
                  refine gf_M_113 hx hb hts hown hT hM (lz_20 hM) d_M_call_231 ?_
                  refine lv_iload_n hx hb d_M_call_234 rfl (lv_at hl 7 rfl) ?_
                  refine lv_iload_n hx hb d_M_call_235 rfl (lv_at hl 6 rfl) ?_
                  refine lv_lload hx hb d_M_call_236 (lv_at hl 0 rfl) ?_
                  refine q_M_124 hx hb hml hown hts hT hM (lz_20 hM) (c_M_tell l G τ m_177 (m_177.1 20 0 28) a2 a1 ((-10 : Int64) - ((m_177.1 20 0 28).toInt64)) (by first | (rw [e_177, go_46, e_2]; exact hk) | (rw [e_228, e_177]; show 0 ≤ ((f_M_go _ _ _).1 46 0 0).toInt; rw [go_46, e_2]; exact hk))) ⟨Nat.le_of_ble_eq_true rfl, Nat.le_of_ble_eq_true rfl⟩ ⟨Nat.zero_le _, Nat.zero_le _⟩ (lv_room (Nat.le_of_ble_eq_true rfl)) hl.1 d_M_call_238 (fun H locs hM => ?_)
                  obtain ⟨m_238, e_238⟩ : ∃ z : mMem, z = (f_M_tell m_177 (m_177.1 20 0 28) a2 a1 ((-10 : Int64) - ((m_177.1 20 0 28).toInt64))) := ⟨_, rfl⟩
                  rw [← e_238] at hM
                  refine lv_lload hx hb d_M_call_241 (lv_at hl 0 rfl) ?_
                  have e_f : f_M_call μ a1 a2 a3 = ((-10 : Int64) - ((m_177.1 20 0 28).toInt64), m_238) := by
                    subst e_238 e_177 e_2
                    exact (if_pos c_16).trans ((if_neg c_40).trans ((if_pos c_93).trans ((if_neg c_184).trans ((if_neg c_214).trans rfl))))
                  rw [e_f]
                  exact W.lret (v := (-10 : Int64) - ((m_177.1 20 0 28).toInt64)) hx hb hr (fun t ht hW => ⟨rfl, hM.end ht⟩) hM.2.2.1 d_M_call_243
                · skip
                  refine lv_aload_n hx hb d_M_call_217 rfl (lv_at hl 5 rfl) ?_
                  refine gf_M_38 hx hb hts hown hT hM (lz_20 hM) d_M_call_218 ?_
                  refine lv_aload_n hx hb d_M_call_221 rfl (lv_at hl 5 rfl) ?_
                  refine gf_M_51 hx hb hts hown hT hM (lz_20 hM) d_M_call_222 ?_
                  refine lv_iload_n hx hb d_M_call_225 rfl (lv_at hl 6 rfl) ?_
                  refine al_35 hx hb hT hM (lz_35 hM) (by first | assumption | exact vin 12 (b := 12) (by decide) (by assumption) (by assumption)) d_M_call_226 ?_
                  refine lv_iconst (v := (0 : Int32)) hx hb d_M_call_227 (by decide) ?_
                  refine as_31 hx hb hT hM (lz_31 hM) (by rw [e_177, go_35]; exact in_wants hJ2 c_40) d_M_call_228 (fun m_228 H locs e_228 hM => ?_)
                  refine lv_aload_n hx hb d_M_call_229 rfl (lv_at hl 5 rfl) ?_
                  refine lv_aload_n hx hb d_M_call_230 rfl (lv_at hl 5 rfl) ?_
                  refine gf_M_113 hx hb hts hown hT hM (lz_20 hM) d_M_call_231 ?_
                  refine lv_iload_n hx hb d_M_call_234 rfl (lv_at hl 7 rfl) ?_
                  refine lv_iload_n hx hb d_M_call_235 rfl (lv_at hl 6 rfl) ?_
                  refine lv_lload hx hb d_M_call_236 (lv_at hl 0 rfl) ?_
                  refine q_M_124 hx hb hml hown hts hT hM (lz_20 hM) (c_M_tell l G τ m_228 (m_228.1 20 0 28) a2 a1 ((-10 : Int64) - ((m_177.1 20 0 28).toInt64)) (by first | (rw [e_177, go_46, e_2]; exact hk) | (rw [e_228, e_177]; show 0 ≤ ((f_M_go _ _ _).1 46 0 0).toInt; rw [go_46, e_2]; exact hk))) ⟨Nat.le_of_ble_eq_true rfl, Nat.le_of_ble_eq_true rfl⟩ ⟨Nat.zero_le _, Nat.zero_le _⟩ (lv_room (Nat.le_of_ble_eq_true rfl)) hl.1 d_M_call_238 (fun H locs hM => ?_)
                  obtain ⟨m_238, e_238⟩ : ∃ z : mMem, z = (f_M_tell m_228 (m_228.1 20 0 28) a2 a1 ((-10 : Int64) - ((m_177.1 20 0 28).toInt64))) := ⟨_, rfl⟩
                  rw [← e_238] at hM
                  refine lv_lload hx hb d_M_call_241 (lv_at hl 0 rfl) ?_
                  have e_f : f_M_call μ a1 a2 a3 = ((-10 : Int64) - ((m_177.1 20 0 28).toInt64), m_238) := by
                    subst e_238 e_228 e_177 e_2
                    exact (if_pos c_16).trans ((if_neg c_40).trans ((if_pos c_93).trans ((if_neg c_184).trans ((if_pos c_214).trans rfl))))
                  rw [e_f]
                  exact W.lret (v := (-10 : Int64) - ((m_177.1 20 0 28).toInt64)) hx hb hr (fun t ht hW => ⟨rfl, hM.end ht⟩) hM.2.2.1 d_M_call_243
          · skip
            have hw := ref_w c_16 c_40 c_93
            refine lv_aload_n hx hb d_M_call_96 rfl (lv_at hl 4 rfl) ?_
            refine gf_M_38 hx hb hts hown hT hM (lz_20 hM) d_M_call_97 ?_
            refine lv_aload_n hx hb d_M_call_100 rfl (lv_at hl 4 rfl) ?_
            refine gf_M_51 hx hb hts hown hT hM (lz_20 hM) d_M_call_101 ?_
            refine lv_iload_n hx hb d_M_call_104 rfl (lv_at hl 5 rfl) ?_
            refine al_35 hx hb hT hM (lz_35 hM) (by first | assumption | exact vin 12 (b := 12) (by decide) (by assumption) (by assumption)) d_M_call_105 ?_
            refine lv_iconst (v := (0 : Int32)) hx hb d_M_call_106 (by decide) ?_
            refine as_31 hx hb hT hM (lz_31 hM) (in_wants hJ c_40) d_M_call_107 (fun m_107 H locs e_107 hM => ?_)
            refine lv_bipush (v := (6 : Int32)) hx hb d_M_call_108 (by decide) ?_
            refine lv_iload hx hb d_M_call_110 (lv_at hl 0 rfl) ?_
            refine lv_imul hx hb d_M_call_112 ?_
            refine lv_aload_n hx hb d_M_call_113 rfl (lv_at hl 4 rfl) ?_
            refine gf_M_25 hx hb hts hown hT hM (lz_20 hM) d_M_call_114 ?_
            refine lv_iload hx hb d_M_call_117 (lv_at hl 0 rfl) ?_
            refine al_27 hx hb hT hM (lz_27 hM) (hh) d_M_call_119 ?_
            refine lv_iadd hx hb d_M_call_120 ?_
            refine lv_istore (lv' := [(10, .int (((6 : Int32) * (m_2.1 24 0 a2.toNatClampNeg)) + (m_107.1 27 0 (m_2.1 24 0 a2.toNatClampNeg).toNatClampNeg))), (9, .int (m_2.1 24 0 a2.toNatClampNeg)), (7, .long (a3 + (f_M_sumOf m_2 (m_2.1 35 0 a1.toNatClampNeg)))), (6, .int (1 : Int32)), (5, .int (f_M_refusal m_2 a1 a2 a3)), (0, .ref (τ.1 20 0)), (1, .int a1), (2, .int a2), (3, .long a3)]) hx hb d_M_call_121 hl (by decide) rfl (fun ls hl => ?_)
            refine lv_aload_n hx hb d_M_call_123 rfl (lv_at hl 5 rfl) ?_
            refine gf_M_28 hx hb hts hown hT hM (lz_20 hM) d_M_call_124 ?_
            refine lv_iload hx hb d_M_call_127 (lv_at hl 0 rfl) ?_
            refine lv_iload_n hx hb d_M_call_129 rfl (lv_at hl 6 rfl) ?_
            refine as_28 hx hb hT hM (lz_28 hM) (by rw [e_107]; exact in_at (μ := m_2) hJ2 hh hw) d_M_call_130 (fun m_130 H locs e_130 hM => ?_)
            refine lv_aload_n hx hb d_M_call_131 rfl (lv_at hl 5 rfl) ?_
            refine gf_M_31 hx hb hts hown hT hM (lz_20 hM) d_M_call_132 ?_
            refine lv_iload hx hb d_M_call_135 (lv_at hl 0 rfl) ?_
            refine lv_iload_n hx hb d_M_call_137 rfl (lv_at hl 7 rfl) ?_
            refine as_29 hx hb hT hM (lz_29 hM) (by rw [e_107]; exact in_at (μ := m_2) hJ2 hh hw) d_M_call_138 (fun m_138 H locs e_138 hM => ?_)
            refine lv_aload_n hx hb d_M_call_139 rfl (lv_at hl 5 rfl) ?_
            refine gf_M_34 hx hb hts hown hT hM (lz_20 hM) d_M_call_140 ?_
            refine lv_iload hx hb d_M_call_143 (lv_at hl 0 rfl) ?_
            refine lv_lload hx hb d_M_call_145 (lv_at hl 2 rfl) ?_
            refine as_30 hx hb hT hM (lz_30 hM) (by rw [e_107]; exact in_at (μ := m_2) hJ2 hh hw) d_M_call_147 (fun m_147 H locs e_147 hM => ?_)
            refine lv_aload_n hx hb d_M_call_148 rfl (lv_at hl 5 rfl) ?_
            refine gf_M_25 hx hb hts hown hT hM (lz_20 hM) d_M_call_149 ?_
            refine lv_iload hx hb d_M_call_152 (lv_at hl 1 rfl) ?_
            refine lv_dup2_11 hx hb d_M_call_154 rfl rfl ?_
            refine al_27 hx hb hT hM (lz_27 hM) (hh) d_M_call_155 ?_
            refine lv_iconst (v := (1 : Int32)) hx hb d_M_call_156 (by decide) ?_
            refine lv_iadd hx hb d_M_call_157 ?_
            refine as_27 hx hb hT hM (lz_27 hM) (hh) d_M_call_158 (fun m_158 H locs e_158 hM => ?_)
            refine lv_aload_n hx hb d_M_call_159 rfl (lv_at hl 5 rfl) ?_
            refine lv_iconst (v := (5 : Int32)) hx hb d_M_call_160 (by decide) ?_
            refine lv_iload_n hx hb d_M_call_161 rfl (lv_at hl 7 rfl) ?_
            refine lv_iload_n hx hb d_M_call_162 rfl (lv_at hl 6 rfl) ?_
            refine lv_ldc2 (v := (-5 : Int64)) hx hb hown (hts _ kw_constantLong_M_132__5) d_M_call_163 ?_
            refine q_M_124 hx hb hml hown hts hT hM (lz_20 hM) (c_M_tell l G τ m_158 (5 : Int32) a2 a1 (-5 : Int64) (by rw [e_158, e_147, e_138, e_130, e_107, e_2]; exact hk)) ⟨Nat.le_of_ble_eq_true rfl, Nat.le_of_ble_eq_true rfl⟩ ⟨Nat.zero_le _, Nat.zero_le _⟩ (lv_room (Nat.le_of_ble_eq_true rfl)) hl.1 d_M_call_166 (fun H locs hM => ?_)
            obtain ⟨m_166, e_166⟩ : ∃ z : mMem, z = (f_M_tell m_158 (5 : Int32) a2 a1 (-5 : Int64)) := ⟨_, rfl⟩
            rw [← e_166] at hM
            refine lv_ldc2 (v := (-5 : Int64)) hx hb hown (hts _ kw_constantLong_M_132__5) d_M_call_169 ?_
            have e_f : f_M_call μ a1 a2 a3 = ((-5 : Int64), m_166) := by
              subst e_166 e_158 e_147 e_138 e_130 e_107 e_2
              exact (if_pos c_16).trans ((if_neg c_40).trans ((if_neg c_93).trans rfl))
            rw [e_f]
            exact W.lret (v := (-5 : Int64)) hx hb hr (fun t ht hW => ⟨rfl, hM.end ht⟩) hM.2.2.1 d_M_call_172
  · skip
    refine lv_aload_n hx hb d_M_call_19 rfl (lv_at hl 1 rfl) ?_
    refine lv_iconst (v := (4 : Int32)) hx hb d_M_call_20 (by decide) ?_
    refine lv_iload_n hx hb d_M_call_21 rfl (lv_at hl 3 rfl) ?_
    refine lv_iload_n hx hb d_M_call_22 rfl (lv_at hl 2 rfl) ?_
    refine lv_iload hx hb d_M_call_23 (lv_at hl 0 rfl) ?_
    refine lv_i2l hx hb d_M_call_25 rfl ?_
    refine q_M_124 hx hb hml hown hts hT hM (lz_20 hM) (c_M_tell l G τ m_2 (4 : Int32) a2 a1 ((f_M_refusal m_2 a1 a2 a3).toInt64) (by rw [e_2]; exact hk)) ⟨Nat.le_of_ble_eq_true rfl, Nat.le_of_ble_eq_true rfl⟩ ⟨Nat.zero_le _, Nat.zero_le _⟩ (lv_room (Nat.le_of_ble_eq_true rfl)) hl.1 d_M_call_26 (fun H locs hM => ?_)
    obtain ⟨m_26, e_26⟩ : ∃ z : mMem, z = (f_M_tell m_2 (4 : Int32) a2 a1 ((f_M_refusal m_2 a1 a2 a3).toInt64)) := ⟨_, rfl⟩
    rw [← e_26] at hM
    refine lv_iload hx hb d_M_call_29 (lv_at hl 0 rfl) ?_
    refine lv_i2l hx hb d_M_call_31 rfl ?_
    have e_f : f_M_call μ a1 a2 a3 = ((f_M_refusal m_2 a1 a2 a3).toInt64, m_26) := by
      subst e_26 e_2
      exact (if_neg c_16).trans rfl
    rw [e_f]
    exact W.lret (v := (f_M_refusal m_2 a1 a2 a3).toInt64) hx hb hr (fun t ht hW => ⟨rfl, hM.end ht⟩) hM.2.2.1 d_M_call_32
