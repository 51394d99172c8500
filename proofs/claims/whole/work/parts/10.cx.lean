set_option maxHeartbeats 4000000 in
set_option maxRecDepth 100000 in
theorem c_X_thingAt (l : Launch) (G : mG) (τ : mTau) (μ : mMem) (a1 : Int32) : Met l y_X_thingAt w_X_thingAt r_X_thingAt (mPc G τ μ [.ref (τ.1 0 0), .int a1]) (mQo G τ 2 (f_X_thingAt μ a1) μ) 0 0 (fun q => G.2.2.1 ≤ q) := by
  refine Met.ofW (cc := b_X_thingAt) (maxL := 2) (ret := (some (.object "BuildCounter$Thing"))) (by decide) rfl ?_
  intro p e s m args below meth c s₁ B hml hv
  obtain ⟨rfl, hT, hM⟩ := hv
  have hx := B.exec
  have hb := B.bytes
  have hr := B.returns
  have hts : ∀ w ∈ gG, w.before _ s = true := fun w h => atoms_spec (ws := w_X_thingAt) B.pre w (List.mem_cons_of_mem _ h)
  have hown : s.vm.findClass R_X = some m.cls := findClass_of_methodNamed B.named
  have hlocks := B.notSynchronized
  have hl := lv_entry ([.ref (τ.1 0 0), .int a1]) (n := 2) (Nat.le_of_ble_eq_true rfl)
  rw [lg_entry_eq]
  skip
  generalize (lg_sl ([.ref (τ.1 0 0), .int a1]) ++ List.replicate (2 - (lg_sl ([.ref (τ.1 0 0), .int a1])).length) Slot.unset).toArray = ls at hl ⊢
  have hl : lv_has ls 2 [(0, .ref (τ.1 0 0)), (1, .int a1)] := hl
  refine lv_iload_n hx hb d_X_thingAt_0 rfl (lv_at hl 1 rfl) ?_
  refine lv_if_lt (tgt := 19) hx hb d_X_thingAt_1 (by decide) (fun c_1 => ?_) (fun c_1 => ?_)
  · skip
    refine lv_null hx hb d_X_thingAt_19 ?_
    have e_f : f_X_thingAt μ a1 = none := by
      exact (if_pos c_1).trans rfl
    rw [e_f]
    exact W.aret hx hb hr (Or.inl ⟨_, rfl⟩) (Or.inl rfl) (fun t ht hW => ⟨rfl, (fun i h => by cases h), hM.end ht⟩) hM.2.2.1 d_X_thingAt_20
  · skip
    refine lv_iload_n hx hb d_X_thingAt_4 rfl (lv_at hl 1 rfl) ?_
    refine lv_bipush (v := (60 : Int32)) hx hb d_X_thingAt_5 (by decide) ?_
    refine lv_icmp_ge (tgt := 19) hx hb d_X_thingAt_7 (by decide) (fun c_7 => ?_) (fun c_7 => ?_)
    · skip
      refine lv_null hx hb d_X_thingAt_19 ?_
      have e_f : f_X_thingAt μ a1 = none := by
        exact (if_neg c_1).trans ((if_pos c_7).trans rfl)
      rw [e_f]
      exact W.aret hx hb hr (Or.inl ⟨_, rfl⟩) (Or.inl rfl) (fun t ht hW => ⟨rfl, (fun i h => by cases h), hM.end ht⟩) hM.2.2.1 d_X_thingAt_20
    · skip
      refine lv_aload_n hx hb d_X_thingAt_10 rfl (lv_at hl 0 rfl) ?_
      refine gf_X_11 hx hb hts hown hT hM (lz_0 hM) d_X_thingAt_11 ?_
      refine lv_iload_n hx hb d_X_thingAt_14 rfl (lv_at hl 1 rfl) ?_
      refine al_1 hx hb hT hM (lz_1 hM) (by first | assumption | exact vin 60 (b := 60) (by decide) (by assumption) (by assumption)) d_X_thingAt_15 (fun c_15 => ?_) (fun c_15 hv_15 => ?_)
      · skip
        refine lv_goto (tgt := 20) hx hb d_X_thingAt_16 (by decide) ?_
        have e_f : f_X_thingAt μ a1 = none := by
          exact (if_neg c_1).trans ((if_neg c_7).trans ((if_pos c_15).trans rfl))
        rw [e_f]
        exact W.aret hx hb hr (Or.inl ⟨_, rfl⟩) (Or.inl rfl) (fun t ht hW => ⟨rfl, (fun i h => by cases h), hM.end ht⟩) hM.2.2.1 d_X_thingAt_20
      · skip
        refine lv_goto (tgt := 20) hx hb d_X_thingAt_16 (by decide) ?_
        have e_f : f_X_thingAt μ a1 = some a1.toNatClampNeg := by
          exact (if_neg c_1).trans ((if_neg c_7).trans ((if_neg c_15).trans rfl))
        rw [e_f]
        exact W.aret hx hb hr (Or.inl ⟨_, rfl⟩) (Or.inr ⟨_, rfl⟩) (fun t ht hW => ⟨rfl, (fun i h => by cases h; exact hv_15), hM.end ht⟩) hM.2.2.1 d_X_thingAt_20
set_option maxHeartbeats 4000000 in
set_option maxRecDepth 100000 in
theorem c_B_isOn (l : Launch) (G : mG) (τ : mTau) (μ : mMem) (i0 : Nat) (hl0 : τ.2 3 i0) : Met l y_B_isOn w_B_isOn r_B_isOn (mPc G τ μ [.ref (τ.1 3 i0)]) (mQ G τ (some (.int (f_B_isOn μ i0))) μ) 0 0 (fun q => G.2.2.1 ≤ q) := by
  refine Met.ofW (cc := b_B_isOn) (maxL := 1) (ret := (some .boolean)) (by decide) rfl ?_
  intro p e s m args below meth c s₁ B hml hv
  obtain ⟨rfl, hT, hM⟩ := hv
  have hx := B.exec
  have hb := B.bytes
  have hr := B.returns
  have hts : ∀ w ∈ gG, w.before _ s = true := fun w h => atoms_spec (ws := w_B_isOn) B.pre w (List.mem_cons_of_mem _ h)
  have hown : s.vm.findClass R_B = some m.cls := findClass_of_methodNamed B.named
  have hlocks := B.notSynchronized
  have hl := lv_entry ([.ref (τ.1 3 i0)]) (n := 1) (Nat.le_of_ble_eq_true rfl)
  rw [lg_entry_eq]
  skip
  generalize (lg_sl ([.ref (τ.1 3 i0)]) ++ List.replicate (1 - (lg_sl ([.ref (τ.1 3 i0)])).length) Slot.unset).toArray = ls at hl ⊢
  have hl : lv_has ls 1 [(0, .ref (τ.1 3 i0))] := hl
  refine lv_aload_n hx hb d_B_isOn_0 rfl (lv_at hl 0 rfl) ?_
  refine gf_B_22 hx hb hts hown hT hM hl0 d_B_isOn_1 ?_
  refine lv_if_le (tgt := 11) hx hb d_B_isOn_4 (by decide) (fun c_4 => ?_) (fun c_4 => ?_)
  · skip
    refine lv_iconst (v := (0 : Int32)) hx hb d_B_isOn_11 (by decide) ?_
    have e_f : f_B_isOn μ i0 = (0 : Int32) := by
      exact (if_pos c_4).trans rfl
    rw [e_f]
    exact W.zret (v := (0 : Int32)) hx hb hr rfl (fun t ht hW => ⟨rfl, hM.end ht⟩) hM.2.2.1 d_B_isOn_12
  · skip
    refine lv_iconst (v := (1 : Int32)) hx hb d_B_isOn_7 (by decide) ?_
    refine lv_goto (tgt := 12) hx hb d_B_isOn_8 (by decide) ?_
    have e_f : f_B_isOn μ i0 = (1 : Int32) := by
      exact (if_neg c_4).trans rfl
    rw [e_f]
    exact W.zret (v := (1 : Int32)) hx hb hr rfl (fun t ht hW => ⟨rfl, hM.end ht⟩) hM.2.2.1 d_B_isOn_12
set_option maxHeartbeats 4000000 in
set_option maxRecDepth 100000 in
theorem c_X_hasLostItsPlace (l : Launch) (G : mG) (τ : mTau) (μ : mMem) (o1 : Option Nat) (ho1 : ∀ i, o1 = some i → τ.2 2 i) : Met l y_X_hasLostItsPlace w_X_hasLostItsPlace r_X_hasLostItsPlace (mPc G τ μ [.ref (τ.1 0 0), va_rf (o1.map (τ.1 2))]) (mQ G τ (some (.int (f_X_hasLostItsPlace μ o1))) μ) 0 0 (fun q => G.2.2.1 ≤ q) := by
  refine Met.ofW (cc := b_X_hasLostItsPlace) (maxL := 2) (ret := (some .boolean)) (by decide) rfl ?_
  intro p e s m args below meth c s₁ B hml hv
  obtain ⟨rfl, hT, hM⟩ := hv
  have hx := B.exec
  have hb := B.bytes
  have hr := B.returns
  have hts : ∀ w ∈ gG, w.before _ s = true := fun w h => atoms_spec (ws := w_X_hasLostItsPlace) B.pre w (List.mem_cons_of_mem _ h)
  have hown : s.vm.findClass R_X = some m.cls := findClass_of_methodNamed B.named
  have hlocks := B.notSynchronized
  rcases o1 with _ | ko1
  · skip
    have hl := lv_entry ([.ref (τ.1 0 0), .null]) (n := 2) (Nat.le_of_ble_eq_true rfl)
    rw [lg_entry_eq]
    change W _ _ _ _ _ _ _ _ _ _ _ _ _ _ _ (F0 m 0 (lg_sl ([.ref (τ.1 0 0), .null]) ++ List.replicate (2 - (lg_sl ([.ref (τ.1 0 0), .null])).length) Slot.unset).toArray [])
    generalize (lg_sl ([.ref (τ.1 0 0), .null]) ++ List.replicate (2 - (lg_sl ([.ref (τ.1 0 0), .null])).length) Slot.unset).toArray = ls at hl ⊢
    have hl : lv_has ls 2 [(0, .ref (τ.1 0 0)), (1, .null)] := hl
    refine lv_aload_nN hx hb d_X_hasLostItsPlace_0 rfl (lv_at hl 1 rfl) ?_
    refine lv_ifnullN (tgt := 26) hx hb d_X_hasLostItsPlace_1 (by decide) ?_
    refine lv_iconst (v := (0 : Int32)) hx hb d_X_hasLostItsPlace_26 (by decide) ?_
    have e_f : f_X_hasLostItsPlace μ none = (0 : Int32) := by
      exact (oC_n rfl).trans rfl
    rw [e_f]
    exact W.zret (v := (0 : Int32)) hx hb hr rfl (fun t ht hW => ⟨rfl, hM.end ht⟩) hM.2.2.1 d_X_hasLostItsPlace_27
  · skip
    have hl := lv_entry ([.ref (τ.1 0 0), .ref (τ.1 2 ko1)]) (n := 2) (Nat.le_of_ble_eq_true rfl)
    rw [lg_entry_eq]
    change W _ _ _ _ _ _ _ _ _ _ _ _ _ _ _ (F0 m 0 (lg_sl ([.ref (τ.1 0 0), .ref (τ.1 2 ko1)]) ++ List.replicate (2 - (lg_sl ([.ref (τ.1 0 0), .ref (τ.1 2 ko1)])).length) Slot.unset).toArray [])
    generalize (lg_sl ([.ref (τ.1 0 0), .ref (τ.1 2 ko1)]) ++ List.replicate (2 - (lg_sl ([.ref (τ.1 0 0), .ref (τ.1 2 ko1)])).length) Slot.unset).toArray = ls at hl ⊢
    have hl : lv_has ls 2 [(0, .ref (τ.1 0 0)), (1, .ref (τ.1 2 ko1))] := hl
    refine lv_aload_n hx hb d_X_hasLostItsPlace_0 rfl (lv_at hl 1 rfl) ?_
    refine lv_ifnull hx hb d_X_hasLostItsPlace_1 ?_
    refine lv_aload_n hx hb d_X_hasLostItsPlace_4 rfl (lv_at hl 1 rfl) ?_
    refine gf_X_57 hx hb hts hown hT hM (ho1 _ rfl) d_X_hasLostItsPlace_5 ?_
    refine lv_if_eq (tgt := 26) hx hb d_X_hasLostItsPlace_8 (by decide) (fun c_8 => ?_) (fun c_8 => ?_)
    · skip
      refine lv_iconst (v := (0 : Int32)) hx hb d_X_hasLostItsPlace_26 (by decide) ?_
      have e_f : f_X_hasLostItsPlace μ (some ko1) = (0 : Int32) := by
        exact (oC_s rfl).trans ((if_pos c_8).trans rfl)
      rw [e_f]
      exact W.zret (v := (0 : Int32)) hx hb hr rfl (fun t ht hW => ⟨rfl, hM.end ht⟩) hM.2.2.1 d_X_hasLostItsPlace_27
    · skip
      refine lv_aload_n hx hb d_X_hasLostItsPlace_11 rfl (lv_at hl 0 rfl) ?_
      refine lv_aload_n hx hb d_X_hasLostItsPlace_12 rfl (lv_at hl 1 rfl) ?_
      refine gf_X_79 hx hb hts hown hT hM (ho1 _ rfl) d_X_hasLostItsPlace_13 ?_
      refine q_X_53 hx hb hml hown hts hT hM (lz_0 hM) (c_X_thingAt l G τ μ (μ.1 2 ko1 1)) ⟨Nat.le_of_ble_eq_true rfl, Nat.le_of_ble_eq_true rfl⟩ ⟨Nat.zero_le _, Nat.zero_le _⟩ (lv_room (Nat.le_of_ble_eq_true rfl)) hl.1 d_X_hasLostItsPlace_16 (fun H locs hM ho_16 => ?_) (fun H locs hM i_16 ho_16 hv_16 => ?_)
      · skip
        refine lv_ifnonnullN hx hb d_X_hasLostItsPlace_19 ?_
        refine lv_iconst (v := (1 : Int32)) hx hb d_X_hasLostItsPlace_22 (by decide) ?_
        refine lv_goto (tgt := 27) hx hb d_X_hasLostItsPlace_23 (by decide) ?_
        have e_f : f_X_hasLostItsPlace μ (some ko1) = (1 : Int32) := by
          exact (oC_s rfl).trans ((if_neg c_8).trans ((oC_n ho_16).trans rfl))
        rw [e_f]
        exact W.zret (v := (1 : Int32)) hx hb hr rfl (fun t ht hW => ⟨rfl, hM.end ht⟩) hM.2.2.1 d_X_hasLostItsPlace_27
      · skip
        refine lv_ifnonnull (tgt := 26) hx hb d_X_hasLostItsPlace_19 (by decide) ?_
        refine lv_iconst (v := (0 : Int32)) hx hb d_X_hasLostItsPlace_26 (by decide) ?_
        have e_f : f_X_hasLostItsPlace μ (some ko1) = (0 : Int32) := by
          exact (oC_s rfl).trans ((if_neg c_8).trans ((oC_s ho_16).trans rfl))
        rw [e_f]
        exact W.zret (v := (0 : Int32)) hx hb hr rfl (fun t ht hW => ⟨rfl, hM.end ht⟩) hM.2.2.1 d_X_hasLostItsPlace_27
set_option maxHeartbeats 4000000 in
set_option maxRecDepth 100000 in
theorem c_X_drop (l : Launch) (G : mG) (τ : mTau) (μ : mMem) (a1 : Int32) (hI : iX μ) : Met l y_X_drop w_X_drop r_X_drop (mPc G τ μ [.ref (τ.1 0 0), .int a1]) (mQ G τ (some (.int (f_X_drop μ a1).1)) (f_X_drop μ a1).2) 0 0 (fun q => G.2.2.1 ≤ q) := by
  refine Met.ofW (cc := b_X_drop) (maxL := 5) (ret := (some .int)) (by decide) rfl ?_
  intro p e s m args below meth c s₁ B hml hv
  obtain ⟨rfl, hT, hM⟩ := hv
  have hx := B.exec
  have hb := B.bytes
  have hr := B.returns
  have hts : ∀ w ∈ gG, w.before _ s = true := fun w h => atoms_spec (ws := w_X_drop) B.pre w (List.mem_cons_of_mem _ h)
  have hown : s.vm.findClass R_X = some m.cls := findClass_of_methodNamed B.named
  have hlocks := B.notSynchronized
  have loop_36 : ∀ (n : Nat) (x3 : Int32) (x4 : Int32) (μ1 : mMem) (H : Heap) (locs : List Loc) (ls : Array Slot), iX μ1 → 0 ≤ x4.toInt → ((μ1.1 0 0 1).toInt - x4.toInt).toNat < n → mw G τ μ1 H locs → lv_has ls 5 [(0, .ref (τ.1 0 0)), (3, .int x3), (4, .int x4)] → W p l e (headSpec (w_X_drop) (r_X_drop)).room s m ([.ref (τ.1 0 0), .int a1] : List Value).toArray below meth c H locs 0 0 (MQ below (mQ G τ (some (.int (f_X_drop_l36 n x3 x4 μ1).1)) (f_X_drop_l36 n x3 x4 μ1).2) ([.ref (τ.1 0 0), .int a1] : List Value).toArray s 0 0 (fun q => G.2.2.1 ≤ q)) (F0 m 36 ls []) := by
    intro n
    induction n with
    | zero => intro x3 x4 μ1 H locs ls  hI hp hn hM hl; exact absurd hn (Nat.not_lt_zero _)
    | succ n ih =>
      intro x3 x4 μ1 H locs ls  hI hp hn hM hl
      refine lv_iload hx hb d_X_drop_36 (lv_at hl 2 rfl) ?_
      refine lv_aload_n hx hb d_X_drop_38 rfl (lv_at hl 0 rfl) ?_
      refine gf_X_15 hx hb hts hown hT hM (lz_0 hM) d_X_drop_39 ?_
      refine lv_icmp_ge (tgt := 76) hx hb d_X_drop_42 (by decide) (fun c_42 => ?_) (fun c_42 => ?_)
      · skip
        refine lv_iload_n hx hb d_X_drop_76 rfl (lv_at hl 1 rfl) ?_
        have e_f : f_X_drop_l36 (n + 1) x3 x4 μ1 = (x3, μ1) := by
          exact (if_pos c_42).trans rfl
        rw [e_f]
        exact W.iret (v := x3) hx hb hr (fun t ht hW => ⟨rfl, hM.end ht⟩) hM.2.2.1 d_X_drop_77
      · skip
        refine lv_aload_n hx hb d_X_drop_45 rfl (lv_at hl 0 rfl) ?_
        refine lv_aload_n hx hb d_X_drop_46 rfl (lv_at hl 0 rfl) ?_
        refine gf_X_11 hx hb hts hown hT hM (lz_0 hM) d_X_drop_47 ?_
        refine lv_iload hx hb d_X_drop_50 (lv_at hl 2 rfl) ?_
        refine al_1 hx hb hT hM (lz_1 hM) (in_made hI hp c_42) d_X_drop_52 (fun c_52 => ?_) (fun c_52 hv_52 => ?_)
        · skip
          refine q_X_75 hx hb hml hown hts hT hM (lz_0 hM) (c_X_hasLostItsPlace l G τ μ1 none (fun _ h => by cases h)) ⟨Nat.le_of_ble_eq_true rfl, Nat.le_of_ble_eq_true rfl⟩ ⟨Nat.zero_le _, Nat.zero_le _⟩ (lv_room (Nat.le_of_ble_eq_true rfl)) hl.1 d_X_drop_53 (fun H locs hM => ?_)
          refine lv_if_eq (tgt := 70) hx hb d_X_drop_56 (by decide) (fun c_56 => ?_) (fun c_56 => ?_)
          · skip
            refine lv_iinc (v := x4 + (1 : Int32)) (lv' := [(4, .int (x4 + (1 : Int32))), (0, .ref (τ.1 0 0)), (3, .int x3)]) hx hb d_X_drop_70 hl (k := 2) rfl rfl (by decide) rfl (fun ls hl => ?_)
            refine lv_goto (tgt := 36) hx hb d_X_drop_73 (by decide) ?_
            have e_f : f_X_drop_l36 (n + 1) x3 x4 μ1 = f_X_drop_l36 n x3 (x4 + (1 : Int32)) μ1 := by
              exact (if_neg c_42).trans ((if_pos c_52).trans ((if_pos c_56).trans rfl))
            rw [e_f]
            exact ih x3 (x4 + (1 : Int32)) μ1 _ _ ls  (hI) (inc_pos hp c_42) (by first | exact inc_lt c_42 hn | (rw [e_66]; exact inc_lt c_42 hn)) hM (lv_sub hl [1, 2, 0] rfl)
          · skip
            refine lv_aload_n hx hb d_X_drop_59 rfl (lv_at hl 0 rfl) ?_
            refine gf_X_11 hx hb hts hown hT hM (lz_0 hM) d_X_drop_60 ?_
            refine lv_iload hx hb d_X_drop_63 (lv_at hl 2 rfl) ?_
            refine lv_null hx hb d_X_drop_65 ?_
            refine an_1 hx hb hT hM (lz_1 hM) (in_made hI hp c_42) d_X_drop_66 (fun m_66 H locs e_66 hM => ?_)
            have hI : iX m_66 := by rw [e_66]; exact iX_I hI rfl
            refine lv_iinc (v := x3 + (1 : Int32)) (lv' := [(3, .int (x3 + (1 : Int32))), (0, .ref (τ.1 0 0)), (4, .int x4)]) hx hb d_X_drop_67 hl (k := 1) rfl rfl (by decide) rfl (fun ls hl => ?_)
            refine lv_iinc (v := x4 + (1 : Int32)) (lv' := [(4, .int (x4 + (1 : Int32))), (3, .int (x3 + (1 : Int32))), (0, .ref (τ.1 0 0))]) hx hb d_X_drop_70 hl (k := 2) rfl rfl (by decide) rfl (fun ls hl => ?_)
            refine lv_goto (tgt := 36) hx hb d_X_drop_73 (by decide) ?_
            have e_f : f_X_drop_l36 (n + 1) x3 x4 μ1 = f_X_drop_l36 n (x3 + (1 : Int32)) (x4 + (1 : Int32)) m_66 := by
              subst e_66
              exact (if_neg c_42).trans ((if_pos c_52).trans ((if_neg c_56).trans rfl))
            rw [e_f]
            exact ih (x3 + (1 : Int32)) (x4 + (1 : Int32)) m_66 _ _ ls  (hI) (inc_pos hp c_42) (by first | exact inc_lt c_42 hn | (rw [e_66]; exact inc_lt c_42 hn)) hM (lv_sub hl [2, 1, 0] rfl)
        · skip
          refine q_X_75 hx hb hml hown hts hT hM (lz_0 hM) (c_X_hasLostItsPlace l G τ μ1 (some x4.toNatClampNeg) (fun _ h => by cases h; exact hv_52)) ⟨Nat.le_of_ble_eq_true rfl, Nat.le_of_ble_eq_true rfl⟩ ⟨Nat.zero_le _, Nat.zero_le _⟩ (lv_room (Nat.le_of_ble_eq_true rfl)) hl.1 d_X_drop_53 (fun H locs hM => ?_)
          refine lv_if_eq (tgt := 70) hx hb d_X_drop_56 (by decide) (fun c_56 => ?_) (fun c_56 => ?_)
          · skip
            refine lv_iinc (v := x4 + (1 : Int32)) (lv' := [(4, .int (x4 + (1 : Int32))), (0, .ref (τ.1 0 0)), (3, .int x3)]) hx hb d_X_drop_70 hl (k := 2) rfl rfl (by decide) rfl (fun ls hl => ?_)
            refine lv_goto (tgt := 36) hx hb d_X_drop_73 (by decide) ?_
            have e_f : f_X_drop_l36 (n + 1) x3 x4 μ1 = f_X_drop_l36 n x3 (x4 + (1 : Int32)) μ1 := by
              exact (if_neg c_42).trans ((if_neg c_52).trans ((if_pos c_56).trans rfl))
            rw [e_f]
            exact ih x3 (x4 + (1 : Int32)) μ1 _ _ ls  (hI) (inc_pos hp c_42) (by first | exact inc_lt c_42 hn | (rw [e_66]; exact inc_lt c_42 hn)) hM (lv_sub hl [1, 2, 0] rfl)
          · skip
            refine lv_aload_n hx hb d_X_drop_59 rfl (lv_at hl 0 rfl) ?_
            refine gf_X_11 hx hb hts hown hT hM (lz_0 hM) d_X_drop_60 ?_
            refine lv_iload hx hb d_X_drop_63 (lv_at hl 2 rfl) ?_
            refine lv_null hx hb d_X_drop_65 ?_
            refine an_1 hx hb hT hM (lz_1 hM) (in_made hI hp c_42) d_X_drop_66 (fun m_66 H locs e_66 hM => ?_)
            have hI : iX m_66 := by rw [e_66]; exact iX_I hI rfl
            refine lv_iinc (v := x3 + (1 : Int32)) (lv' := [(3, .int (x3 + (1 : Int32))), (0, .ref (τ.1 0 0)), (4, .int x4)]) hx hb d_X_drop_67 hl (k := 1) rfl rfl (by decide) rfl (fun ls hl => ?_)
            refine lv_iinc (v := x4 + (1 : Int32)) (lv' := [(4, .int (x4 + (1 : Int32))), (3, .int (x3 + (1 : Int32))), (0, .ref (τ.1 0 0))]) hx hb d_X_drop_70 hl (k := 2) rfl rfl (by decide) rfl (fun ls hl => ?_)
            refine lv_goto (tgt := 36) hx hb d_X_drop_73 (by decide) ?_
            have e_f : f_X_drop_l36 (n + 1) x3 x4 μ1 = f_X_drop_l36 n (x3 + (1 : Int32)) (x4 + (1 : Int32)) m_66 := by
              subst e_66
              exact (if_neg c_42).trans ((if_neg c_52).trans ((if_neg c_56).trans rfl))
            rw [e_f]
            exact ih (x3 + (1 : Int32)) (x4 + (1 : Int32)) m_66 _ _ ls  (hI) (inc_pos hp c_42) (by first | exact inc_lt c_42 hn | (rw [e_66]; exact inc_lt c_42 hn)) hM (lv_sub hl [2, 1, 0] rfl)
  have hl := lv_entry ([.ref (τ.1 0 0), .int a1]) (n := 5) (Nat.le_of_ble_eq_true rfl)
  rw [lg_entry_eq]
  skip
  generalize (lg_sl ([.ref (τ.1 0 0), .int a1]) ++ List.replicate (5 - (lg_sl ([.ref (τ.1 0 0), .int a1])).length) Slot.unset).toArray = ls at hl ⊢
  have hl : lv_has ls 5 [(0, .ref (τ.1 0 0)), (1, .int a1)] := hl
  refine lv_aload_n hx hb d_X_drop_0 rfl (lv_at hl 0 rfl) ?_
  refine lv_iload_n hx hb d_X_drop_1 rfl (lv_at hl 1 rfl) ?_
  refine q_X_53 hx hb hml hown hts hT hM (lz_0 hM) (c_X_thingAt l G τ μ a1) ⟨Nat.le_of_ble_eq_true rfl, Nat.le_of_ble_eq_true rfl⟩ ⟨Nat.zero_le _, Nat.zero_le _⟩ (lv_room (Nat.le_of_ble_eq_true rfl)) hl.1 d_X_drop_2 (fun H locs hM ho_2 => ?_) (fun H locs hM i_2 ho_2 hv_2 => ?_)
  · skip
    refine lv_astore_nN (lv' := [(2, .null), (0, .ref (τ.1 0 0)), (1, .int a1)]) hx hb d_X_drop_5 rfl hl (by decide) rfl (fun ls hl => ?_)
    refine lv_aload_nN hx hb d_X_drop_6 rfl (lv_at hl 0 rfl) ?_
    refine lv_ifnullN (tgt := 20) hx hb d_X_drop_7 (by decide) ?_
    refine lv_iconst (v := (-1 : Int32)) hx hb d_X_drop_20 (by decide) ?_
    have e_f : f_X_drop μ a1 = ((-1 : Int32), μ) := by
      exact (oC_n ho_2).trans rfl
    rw [e_f]
    exact W.iret (v := (-1 : Int32)) hx hb hr (fun t ht hW => ⟨rfl, hM.end ht⟩) hM.2.2.1 d_X_drop_21
  · skip
    refine lv_astore_n (lv' := [(2, .ref (τ.1 2 i_2)), (0, .ref (τ.1 0 0)), (1, .int a1)]) hx hb d_X_drop_5 rfl hl (by decide) rfl (fun ls hl => ?_)
    refine lv_aload_n hx hb d_X_drop_6 rfl (lv_at hl 0 rfl) ?_
    refine lv_ifnull hx hb d_X_drop_7 ?_
    refine lv_aload_n hx hb d_X_drop_10 rfl (lv_at hl 0 rfl) ?_
    refine gf_X_64 hx hb hts hown hT hM hv_2 d_X_drop_11 ?_
    have hv_11 : τ.2 3 ((μ.1 2 i_2 2).toNatClampNeg) := lz_3 hM hv_2
    refine q_X_68 hx hb hml hown hts hT hM hv_11 (c_B_isOn l G τ μ ((μ.1 2 i_2 2).toNatClampNeg) hv_11) ⟨Nat.le_of_ble_eq_true rfl, Nat.le_of_ble_eq_true rfl⟩ ⟨Nat.zero_le _, Nat.zero_le _⟩ (lv_room (Nat.le_of_ble_eq_true rfl)) hl.1 d_X_drop_14 (fun H locs hM => ?_)
    refine lv_if_eq (tgt := 22) hx hb d_X_drop_17 (by decide) (fun c_17 => ?_) (fun c_17 => ?_)
    · skip
      refine lv_aload_n hx hb d_X_drop_22 rfl (lv_at hl 1 rfl) ?_
      refine gf_X_11 hx hb hts hown hT hM (lz_0 hM) d_X_drop_23 ?_
      refine lv_iload_n hx hb d_X_drop_26 rfl (lv_at hl 2 rfl) ?_
      refine lv_null hx hb d_X_drop_27 ?_
      refine an_1 hx hb hT hM (lz_1 hM) ((thingAt_in ho_2).1) d_X_drop_28 (fun m_28 H locs e_28 hM => ?_)
      have hI : iX m_28 := by rw [e_28]; exact iX_I hI rfl
      refine lv_iconst (v := (1 : Int32)) hx hb d_X_drop_29 (by decide) ?_
      refine lv_istore_n (lv' := [(3, .int (1 : Int32)), (2, .ref (τ.1 2 i_2)), (0, .ref (τ.1 0 0)), (1, .int a1)]) hx hb d_X_drop_30 rfl hl (by decide) rfl (fun ls hl => ?_)
      refine lv_iload_n hx hb d_X_drop_31 rfl (lv_at hl 3 rfl) ?_
      refine lv_iconst (v := (1 : Int32)) hx hb d_X_drop_32 (by decide) ?_
      refine lv_iadd hx hb d_X_drop_33 ?_
      refine lv_istore (lv' := [(4, .int (a1 + (1 : Int32))), (3, .int (1 : Int32)), (2, .ref (τ.1 2 i_2)), (0, .ref (τ.1 0 0)), (1, .int a1)]) hx hb d_X_drop_34 hl (by decide) rfl (fun ls hl => ?_)
      have e_f : f_X_drop μ a1 = f_X_drop_l36 64 (1 : Int32) (a1 + (1 : Int32)) m_28 := by
        subst e_28
        exact (oC_s ho_2).trans ((if_pos c_17).trans rfl)
      rw [e_f]
      exact loop_36 64 (1 : Int32) (a1 + (1 : Int32)) m_28 _ _ ls  (hI) (inc_pos1 (thingAt_in ho_2).1) (fuel_made hI (inc_pos1 (thingAt_in ho_2).1)) hM (lv_sub hl [3, 1, 0] rfl)
    · skip
      refine lv_iconst (v := (-1 : Int32)) hx hb d_X_drop_20 (by decide) ?_
      have e_f : f_X_drop μ a1 = ((-1 : Int32), μ) := by
        exact (oC_s ho_2).trans ((if_neg c_17).trans rfl)
      rw [e_f]
      exact W.iret (v := (-1 : Int32)) hx hb hr (fun t ht hW => ⟨rfl, hM.end ht⟩) hM.2.2.1 d_X_drop_21
set_option maxHeartbeats 4000000 in
set_option maxRecDepth 100000 in
theorem c_X_isKind (l : Launch) (G : mG) (τ : mTau) (μ : mMem) (a1 : Int32) : Met l y_X_isKind w_X_isKind r_X_isKind (mPc G τ μ [.int a1]) (mQ G τ (some (.int (f_X_isKind μ a1))) μ) 0 0 (fun q => G.2.2.1 ≤ q) := by
  refine Met.ofW (cc := b_X_isKind) (maxL := 1) (ret := (some .boolean)) (by decide) rfl ?_
  intro p e s m args below meth c s₁ B hml hv
  obtain ⟨rfl, hT, hM⟩ := hv
  have hx := B.exec
  have hb := B.bytes
  have hr := B.returns
  have hts : ∀ w ∈ gG, w.before _ s = true := fun w h => atoms_spec (ws := w_X_isKind) B.pre w (List.mem_cons_of_mem _ h)
  have hown : s.vm.findClass R_X = some m.cls := findClass_of_methodNamed B.named
  have hlocks := B.notSynchronized
  have hl := lv_entry ([.int a1]) (n := 1) (Nat.le_of_ble_eq_true rfl)
  rw [lg_entry_eq]
  skip
  generalize (lg_sl ([.int a1]) ++ List.replicate (1 - (lg_sl ([.int a1])).length) Slot.unset).toArray = ls at hl ⊢
  have hl : lv_has ls 1 [(0, .int a1)] := hl
  refine lv_iload_n hx hb d_X_isKind_0 rfl (lv_at hl 0 rfl) ?_
  refine lv_if_lt (tgt := 16) hx hb d_X_isKind_1 (by decide) (fun c_1 => ?_) (fun c_1 => ?_)
  · skip
    refine lv_iconst (v := (0 : Int32)) hx hb d_X_isKind_16 (by decide) ?_
    have e_f : f_X_isKind μ a1 = (0 : Int32) := by
      exact (if_pos c_1).trans rfl
    rw [e_f]
    exact W.zret (v := (0 : Int32)) hx hb hr rfl (fun t ht hW => ⟨rfl, hM.end ht⟩) hM.2.2.1 d_X_isKind_17
  · skip
    refine lv_iload_n hx hb d_X_isKind_4 rfl (lv_at hl 0 rfl) ?_
    refine mw_tget hx hb hT.2.2.2.1 hM.2.1 hts hown kw_fieldLink_60_LIES_IN__I d_X_isKind_5 (fun t_5 ht_5 => ?_)
    refine mw_tlen (v := (9 : Int32)) hx hb ht_5 hM.2.1 rfl d_X_isKind_8 ?_
    refine lv_icmp_ge (tgt := 16) hx hb d_X_isKind_9 (by decide) (fun c_9 => ?_) (fun c_9 => ?_)
    · skip
      refine lv_iconst (v := (0 : Int32)) hx hb d_X_isKind_16 (by decide) ?_
      have e_f : f_X_isKind μ a1 = (0 : Int32) := by
        exact (if_neg c_1).trans ((if_pos c_9).trans rfl)
      rw [e_f]
      exact W.zret (v := (0 : Int32)) hx hb hr rfl (fun t ht hW => ⟨rfl, hM.end ht⟩) hM.2.2.1 d_X_isKind_17
    · skip
      refine lv_iconst (v := (1 : Int32)) hx hb d_X_isKind_12 (by decide) ?_
      refine lv_goto (tgt := 17) hx hb d_X_isKind_13 (by decide) ?_
      have e_f : f_X_isKind μ a1 = (1 : Int32) := by
        exact (if_neg c_1).trans ((if_neg c_9).trans rfl)
      rw [e_f]
      exact W.zret (v := (1 : Int32)) hx hb hr rfl (fun t ht hW => ⟨rfl, hM.end ht⟩) hM.2.2.1 d_X_isKind_17
set_option maxHeartbeats 4000000 in
set_option maxRecDepth 100000 in
theorem c_X_numbers (l : Launch) (G : mG) (τ : mTau) (μ : mMem) (a1 : Int32) (hI : iX μ) : Met l y_X_numbers w_X_numbers r_X_numbers (mPc G τ μ [.ref (τ.1 0 0), .int a1]) (mQ G τ (some (.int (f_X_numbers μ a1))) μ) 0 0 (fun q => G.2.2.1 ≤ q) := by
  refine Met.ofW (cc := b_X_numbers) (maxL := 4) (ret := (some .int)) (by decide) rfl ?_
  intro p e s m args below meth c s₁ B hml hv
  obtain ⟨rfl, hT, hM⟩ := hv
  have hx := B.exec
  have hb := B.bytes
  have hr := B.returns
  have hts : ∀ w ∈ gG, w.before _ s = true := fun w h => atoms_spec (ws := w_X_numbers) B.pre w (List.mem_cons_of_mem _ h)
  have hown : s.vm.findClass R_X = some m.cls := findClass_of_methodNamed B.named
  have hlocks := B.notSynchronized
  have loop_13 : ∀ (n : Nat) (x1 : Int32) (x2 : Int32) (x3 : Int32) (μ1 : mMem) (H : Heap) (locs : List Loc) (ls : Array Slot), iX μ1 → 0 ≤ x3.toInt → ((μ1.1 0 0 1).toInt - x3.toInt).toNat < n → mw G τ μ1 H locs → lv_has ls 4 [(0, .ref (τ.1 0 0)), (1, .int x1), (2, .int x2), (3, .int x3)] → W p l e (headSpec (w_X_numbers) (r_X_numbers)).room s m ([.ref (τ.1 0 0), .int a1] : List Value).toArray below meth c H locs 0 0 (MQ below (mQ G τ (some (.int (f_X_numbers_l13 n x1 x2 x3 μ1))) μ1) ([.ref (τ.1 0 0), .int a1] : List Value).toArray s 0 0 (fun q => G.2.2.1 ≤ q)) (F0 m 13 ls []) := by
    intro n
    induction n with
    | zero => intro x1 x2 x3 μ1 H locs ls  hI hp hn hM hl; exact absurd hn (Nat.not_lt_zero _)
    | succ n ih =>
      intro x1 x2 x3 μ1 H locs ls  hI hp hn hM hl
      refine lv_iload_n hx hb d_X_numbers_13 rfl (lv_at hl 3 rfl) ?_
      refine lv_aload_n hx hb d_X_numbers_14 rfl (lv_at hl 0 rfl) ?_
      refine gf_X_15 hx hb hts hown hT hM (lz_0 hM) d_X_numbers_15 ?_
      refine lv_icmp_ge (tgt := 52) hx hb d_X_numbers_18 (by decide) (fun c_18 => ?_) (fun c_18 => ?_)
      · skip
        refine lv_iload_n hx hb d_X_numbers_52 rfl (lv_at hl 2 rfl) ?_
        have e_f : f_X_numbers_l13 (n + 1) x1 x2 x3 μ1 = x2 := by
          exact (if_pos c_18).trans rfl
        rw [e_f]
        exact W.iret (v := x2) hx hb hr (fun t ht hW => ⟨rfl, hM.end ht⟩) hM.2.2.1 d_X_numbers_53
      · skip
        refine lv_aload_n hx hb d_X_numbers_21 rfl (lv_at hl 0 rfl) ?_
        refine gf_X_11 hx hb hts hown hT hM (lz_0 hM) d_X_numbers_22 ?_
        refine lv_iload_n hx hb d_X_numbers_25 rfl (lv_at hl 3 rfl) ?_
        refine al_1 hx hb hT hM (lz_1 hM) (in_made hI hp c_18) d_X_numbers_26 (fun c_26 => ?_) (fun c_26 hv_26 => ?_)
        · skip
          refine lv_ifnullN (tgt := 46) hx hb d_X_numbers_27 (by decide) ?_
          refine lv_iinc (v := x3 + (1 : Int32)) (lv' := [(3, .int (x3 + (1 : Int32))), (0, .ref (τ.1 0 0)), (1, .int x1), (2, .int x2)]) hx hb d_X_numbers_46 hl (k := 3) rfl rfl (by decide) rfl (fun ls hl => ?_)
          refine lv_goto (tgt := 13) hx hb d_X_numbers_49 (by decide) ?_
          have e_f : f_X_numbers_l13 (n + 1) x1 x2 x3 μ1 = f_X_numbers_l13 n x1 x2 (x3 + (1 : Int32)) μ1 := by
            exact (if_neg c_18).trans ((if_pos c_26).trans rfl)
          rw [e_f]
          exact ih x1 x2 (x3 + (1 : Int32)) μ1 _ _ ls  (hI) (inc_pos hp c_18) (inc_lt c_18 hn) hM (lv_sub hl [1, 2, 3, 0] rfl)
        · skip
          refine lv_ifnull hx hb d_X_numbers_27 ?_
          refine lv_aload_n hx hb d_X_numbers_30 rfl (lv_at hl 0 rfl) ?_
          refine gf_X_11 hx hb hts hown hT hM (lz_0 hM) d_X_numbers_31 ?_
          refine lv_iload_n hx hb d_X_numbers_34 rfl (lv_at hl 3 rfl) ?_
          refine al_1 hx hb hT hM (lz_1 hM) (in_made hI hp c_18) d_X_numbers_35 (fun c_35 => ?_) (fun c_35 hv_35 => ?_)
          · exact absurd c_35 c_26
          · skip
            refine gf_X_57 hx hb hts hown hT hM hv_35 d_X_numbers_36 ?_
            refine lv_iload_n hx hb d_X_numbers_39 rfl (lv_at hl 1 rfl) ?_
            refine lv_icmp_ne (tgt := 46) hx hb d_X_numbers_40 (by decide) (fun c_40 => ?_) (fun c_40 => ?_)
            · skip
              refine lv_iinc (v := x3 + (1 : Int32)) (lv' := [(3, .int (x3 + (1 : Int32))), (0, .ref (τ.1 0 0)), (1, .int x1), (2, .int x2)]) hx hb d_X_numbers_46 hl (k := 3) rfl rfl (by decide) rfl (fun ls hl => ?_)
              refine lv_goto (tgt := 13) hx hb d_X_numbers_49 (by decide) ?_
              have e_f : f_X_numbers_l13 (n + 1) x1 x2 x3 μ1 = f_X_numbers_l13 n x1 x2 (x3 + (1 : Int32)) μ1 := by
                exact (if_neg c_18).trans ((if_neg c_26).trans ((if_neg c_40).trans rfl))
              rw [e_f]
              exact ih x1 x2 (x3 + (1 : Int32)) μ1 _ _ ls  (hI) (inc_pos hp c_18) (inc_lt c_18 hn) hM (lv_sub hl [1, 2, 3, 0] rfl)
            · skip
              refine lv_iinc (v := x2 + (1 : Int32)) (lv' := [(2, .int (x2 + (1 : Int32))), (0, .ref (τ.1 0 0)), (1, .int x1), (3, .int x3)]) hx hb d_X_numbers_43 hl (k := 2) rfl rfl (by decide) rfl (fun ls hl => ?_)
              refine lv_iinc (v := x3 + (1 : Int32)) (lv' := [(3, .int (x3 + (1 : Int32))), (2, .int (x2 + (1 : Int32))), (0, .ref (τ.1 0 0)), (1, .int x1)]) hx hb d_X_numbers_46 hl (k := 3) rfl rfl (by decide) rfl (fun ls hl => ?_)
              refine lv_goto (tgt := 13) hx hb d_X_numbers_49 (by decide) ?_
              have e_f : f_X_numbers_l13 (n + 1) x1 x2 x3 μ1 = f_X_numbers_l13 n x1 (x2 + (1 : Int32)) (x3 + (1 : Int32)) μ1 := by
                exact (if_neg c_18).trans ((if_neg c_26).trans ((if_pos c_40).trans rfl))
              rw [e_f]
              exact ih x1 (x2 + (1 : Int32)) (x3 + (1 : Int32)) μ1 _ _ ls  (hI) (inc_pos hp c_18) (inc_lt c_18 hn) hM (lv_sub hl [2, 3, 1, 0] rfl)
  have hl := lv_entry ([.ref (τ.1 0 0), .int a1]) (n := 4) (Nat.le_of_ble_eq_true rfl)
  rw [lg_entry_eq]
  skip
  generalize (lg_sl ([.ref (τ.1 0 0), .int a1]) ++ List.replicate (4 - (lg_sl ([.ref (τ.1 0 0), .int a1])).length) Slot.unset).toArray = ls at hl ⊢
  have hl : lv_has ls 4 [(0, .ref (τ.1 0 0)), (1, .int a1)] := hl
  refine lv_iload_n hx hb d_X_numbers_0 rfl (lv_at hl 1 rfl) ?_
  refine q_X_39 hx hb hml hown hts hT hM (c_X_isKind l G τ μ a1) ⟨Nat.le_of_ble_eq_true rfl, Nat.le_of_ble_eq_true rfl⟩ ⟨Nat.zero_le _, Nat.zero_le _⟩ (lv_room (Nat.le_of_ble_eq_true rfl)) hl.1 d_X_numbers_1 (fun H locs hM => ?_)
  refine lv_if_ne (tgt := 9) hx hb d_X_numbers_4 (by decide) (fun c_4 => ?_) (fun c_4 => ?_)
  · skip
    refine lv_iconst (v := (0 : Int32)) hx hb d_X_numbers_9 (by decide) ?_
    refine lv_istore_n (lv' := [(2, .int (0 : Int32)), (0, .ref (τ.1 0 0)), (1, .int a1)]) hx hb d_X_numbers_10 rfl hl (by decide) rfl (fun ls hl => ?_)
    refine lv_iconst (v := (0 : Int32)) hx hb d_X_numbers_11 (by decide) ?_
    refine lv_istore_n (lv' := [(3, .int (0 : Int32)), (2, .int (0 : Int32)), (0, .ref (τ.1 0 0)), (1, .int a1)]) hx hb d_X_numbers_12 rfl hl (by decide) rfl (fun ls hl => ?_)
    have e_f : f_X_numbers μ a1 = f_X_numbers_l13 64 a1 (0 : Int32) (0 : Int32) μ := by
      exact (if_neg c_4).trans rfl
    rw [e_f]
    exact loop_13 64 a1 (0 : Int32) (0 : Int32) μ _ _ ls  (hI) (by decide) (fuel_made hI (by decide)) hM (lv_sub hl [2, 3, 1, 0] rfl)
  · skip
    refine lv_iconst (v := (-1 : Int32)) hx hb d_X_numbers_7 (by decide) ?_
    have e_f : f_X_numbers μ a1 = (-1 : Int32) := by
      exact (if_pos c_4).trans rfl
    rw [e_f]
    exact W.iret (v := (-1 : Int32)) hx hb hr (fun t ht hW => ⟨rfl, hM.end ht⟩) hM.2.2.1 d_X_numbers_8
set_option maxHeartbeats 4000000 in
set_option maxRecDepth 100000 in
theorem c_X_lyingJustIn (l : Launch) (G : mG) (τ : mTau) (μ : mMem) (a1 : Int32) (hI : iX μ) (h1 : vp_in a1 60) : Met l y_X_lyingJustIn w_X_lyingJustIn r_X_lyingJustIn (mPc G τ μ [.ref (τ.1 0 0), .int a1]) (mQ G τ (some (.int (f_X_lyingJustIn μ a1))) μ) 0 0 (fun q => G.2.2.1 ≤ q) := by
  refine Met.ofW (cc := b_X_lyingJustIn) (maxL := 4) (ret := (some .int)) (by decide) rfl ?_
  intro p e s m args below meth c s₁ B hml hv
  obtain ⟨rfl, hT, hM⟩ := hv
  have hx := B.exec
  have hb := B.bytes
  have hr := B.returns
  have hts : ∀ w ∈ gG, w.before _ s = true := fun w h => atoms_spec (ws := w_X_lyingJustIn) B.pre w (List.mem_cons_of_mem _ h)
  have hown : s.vm.findClass R_X = some m.cls := findClass_of_methodNamed B.named
  have hlocks := B.notSynchronized
  have loop_6 : ∀ (n : Nat) (x1 : Int32) (x2 : Int32) (x3 : Int32) (μ1 : mMem) (H : Heap) (locs : List Loc) (ls : Array Slot), iX μ1 → 0 ≤ x3.toInt → ((μ1.1 0 0 1).toInt - x3.toInt).toNat < n → mw G τ μ1 H locs → lv_has ls 4 [(0, .ref (τ.1 0 0)), (1, .int x1), (2, .int x2), (3, .int x3)] → W p l e (headSpec (w_X_lyingJustIn) (r_X_lyingJustIn)).room s m ([.ref (τ.1 0 0), .int a1] : List Value).toArray below meth c H locs 0 0 (MQ below (mQ G τ (some (.int (f_X_lyingJustIn_l6 n x1 x2 x3 μ1))) μ1) ([.ref (τ.1 0 0), .int a1] : List Value).toArray s 0 0 (fun q => G.2.2.1 ≤ q)) (F0 m 6 ls []) := by
    intro n
    induction n with
    | zero => intro x1 x2 x3 μ1 H locs ls  hI hp hn hM hl; exact absurd hn (Nat.not_lt_zero _)
    | succ n ih =>
      intro x1 x2 x3 μ1 H locs ls  hI hp hn hM hl
      refine lv_iload_n hx hb d_X_lyingJustIn_6 rfl (lv_at hl 3 rfl) ?_
      refine lv_aload_n hx hb d_X_lyingJustIn_7 rfl (lv_at hl 0 rfl) ?_
      refine gf_X_15 hx hb hts hown hT hM (lz_0 hM) d_X_lyingJustIn_8 ?_
      refine lv_icmp_ge (tgt := 45) hx hb d_X_lyingJustIn_11 (by decide) (fun c_11 => ?_) (fun c_11 => ?_)
      · skip
        refine lv_iload_n hx hb d_X_lyingJustIn_45 rfl (lv_at hl 2 rfl) ?_
        have e_f : f_X_lyingJustIn_l6 (n + 1) x1 x2 x3 μ1 = x2 := by
          exact (if_pos c_11).trans rfl
        rw [e_f]
        exact W.iret (v := x2) hx hb hr (fun t ht hW => ⟨rfl, hM.end ht⟩) hM.2.2.1 d_X_lyingJustIn_46
      · skip
        refine lv_aload_n hx hb d_X_lyingJustIn_14 rfl (lv_at hl 0 rfl) ?_
        refine gf_X_11 hx hb hts hown hT hM (lz_0 hM) d_X_lyingJustIn_15 ?_
        refine lv_iload_n hx hb d_X_lyingJustIn_18 rfl (lv_at hl 3 rfl) ?_
        refine al_1 hx hb hT hM (lz_1 hM) (in_made hI hp c_11) d_X_lyingJustIn_19 (fun c_19 => ?_) (fun c_19 hv_19 => ?_)
        · skip
          refine lv_ifnullN (tgt := 39) hx hb d_X_lyingJustIn_20 (by decide) ?_
          refine lv_iinc (v := x3 + (1 : Int32)) (lv' := [(3, .int (x3 + (1 : Int32))), (0, .ref (τ.1 0 0)), (1, .int x1), (2, .int x2)]) hx hb d_X_lyingJustIn_39 hl (k := 3) rfl rfl (by decide) rfl (fun ls hl => ?_)
          refine lv_goto (tgt := 6) hx hb d_X_lyingJustIn_42 (by decide) ?_
          have e_f : f_X_lyingJustIn_l6 (n + 1) x1 x2 x3 μ1 = f_X_lyingJustIn_l6 n x1 x2 (x3 + (1 : Int32)) μ1 := by
            exact (if_neg c_11).trans ((if_pos c_19).trans rfl)
          rw [e_f]
          exact ih x1 x2 (x3 + (1 : Int32)) μ1 _ _ ls  (hI) (inc_pos hp c_11) (inc_lt c_11 hn) hM (lv_sub hl [1, 2, 3, 0] rfl)
        · skip
          refine lv_ifnull hx hb d_X_lyingJustIn_20 ?_
          refine lv_aload_n hx hb d_X_lyingJustIn_23 rfl (lv_at hl 0 rfl) ?_
          refine gf_X_11 hx hb hts hown hT hM (lz_0 hM) d_X_lyingJustIn_24 ?_
          refine lv_iload_n hx hb d_X_lyingJustIn_27 rfl (lv_at hl 3 rfl) ?_
          refine al_1 hx hb hT hM (lz_1 hM) (in_made hI hp c_11) d_X_lyingJustIn_28 (fun c_28 => ?_) (fun c_28 hv_28 => ?_)
          · exact absurd c_28 c_19
          · skip
            refine gf_X_79 hx hb hts hown hT hM hv_28 d_X_lyingJustIn_29 ?_
            refine lv_iload_n hx hb d_X_lyingJustIn_32 rfl (lv_at hl 1 rfl) ?_
            refine lv_icmp_ne (tgt := 39) hx hb d_X_lyingJustIn_33 (by decide) (fun c_33 => ?_) (fun c_33 => ?_)
            · skip
              refine lv_iinc (v := x3 + (1 : Int32)) (lv' := [(3, .int (x3 + (1 : Int32))), (0, .ref (τ.1 0 0)), (1, .int x1), (2, .int x2)]) hx hb d_X_lyingJustIn_39 hl (k := 3) rfl rfl (by decide) rfl (fun ls hl => ?_)
              refine lv_goto (tgt := 6) hx hb d_X_lyingJustIn_42 (by decide) ?_
              have e_f : f_X_lyingJustIn_l6 (n + 1) x1 x2 x3 μ1 = f_X_lyingJustIn_l6 n x1 x2 (x3 + (1 : Int32)) μ1 := by
                exact (if_neg c_11).trans ((if_neg c_19).trans ((if_neg c_33).trans rfl))
              rw [e_f]
              exact ih x1 x2 (x3 + (1 : Int32)) μ1 _ _ ls  (hI) (inc_pos hp c_11) (inc_lt c_11 hn) hM (lv_sub hl [1, 2, 3, 0] rfl)
            · skip
              refine lv_iinc (v := x2 + (1 : Int32)) (lv' := [(2, .int (x2 + (1 : Int32))), (0, .ref (τ.1 0 0)), (1, .int x1), (3, .int x3)]) hx hb d_X_lyingJustIn_36 hl (k := 2) rfl rfl (by decide) rfl (fun ls hl => ?_)
              refine lv_iinc (v := x3 + (1 : Int32)) (lv' := [(3, .int (x3 + (1 : Int32))), (2, .int (x2 + (1 : Int32))), (0, .ref (τ.1 0 0)), (1, .int x1)]) hx hb d_X_lyingJustIn_39 hl (k := 3) rfl rfl (by decide) rfl (fun ls hl => ?_)
              refine lv_goto (tgt := 6) hx hb d_X_lyingJustIn_42 (by decide) ?_
              have e_f : f_X_lyingJustIn_l6 (n + 1) x1 x2 x3 μ1 = f_X_lyingJustIn_l6 n x1 (x2 + (1 : Int32)) (x3 + (1 : Int32)) μ1 := by
                exact (if_neg c_11).trans ((if_neg c_19).trans ((if_pos c_33).trans rfl))
              rw [e_f]
              exact ih x1 (x2 + (1 : Int32)) (x3 + (1 : Int32)) μ1 _ _ ls  (hI) (inc_pos hp c_11) (inc_lt c_11 hn) hM (lv_sub hl [2, 3, 1, 0] rfl)
  have hl := lv_entry ([.ref (τ.1 0 0), .int a1]) (n := 4) (Nat.le_of_ble_eq_true rfl)
  rw [lg_entry_eq]
  skip
  generalize (lg_sl ([.ref (τ.1 0 0), .int a1]) ++ List.replicate (4 - (lg_sl ([.ref (τ.1 0 0), .int a1])).length) Slot.unset).toArray = ls at hl ⊢
  have hl : lv_has ls 4 [(0, .ref (τ.1 0 0)), (1, .int a1)] := hl
  refine lv_iconst (v := (0 : Int32)) hx hb d_X_lyingJustIn_0 (by decide) ?_
  refine lv_istore_n (lv' := [(2, .int (0 : Int32)), (0, .ref (τ.1 0 0)), (1, .int a1)]) hx hb d_X_lyingJustIn_1 rfl hl (by decide) rfl (fun ls hl => ?_)
  refine lv_iload_n hx hb d_X_lyingJustIn_2 rfl (lv_at hl 2 rfl) ?_
  refine lv_iconst (v := (1 : Int32)) hx hb d_X_lyingJustIn_3 (by decide) ?_
  refine lv_iadd hx hb d_X_lyingJustIn_4 ?_
  refine lv_istore_n (lv' := [(3, .int (a1 + (1 : Int32))), (2, .int (0 : Int32)), (0, .ref (τ.1 0 0)), (1, .int a1)]) hx hb d_X_lyingJustIn_5 rfl hl (by decide) rfl (fun ls hl => ?_)
  have e_f : f_X_lyingJustIn μ a1 = f_X_lyingJustIn_l6 64 a1 (0 : Int32) (a1 + (1 : Int32)) μ := by
    exact rfl
  rw [e_f]
  exact loop_6 64 a1 (0 : Int32) (a1 + (1 : Int32)) μ _ _ ls  (hI) (inc_pos1 h1) (fuel_made hI (inc_pos1 h1)) hM (lv_sub hl [2, 3, 1, 0] rfl)
set_option maxHeartbeats 4000000 in
set_option maxRecDepth 100000 in
theorem c_X_about (l : Launch) (G : mG) (τ : mTau) (μ : mMem) (a1 : Int32) (a2 : Int32) (hI : iX μ) : Met l y_X_about w_X_about r_X_about (mPc G τ μ [.ref (τ.1 0 0), .int a1, .int a2]) (mQ G τ (some (.int (f_X_about μ a1 a2))) μ) 0 0 (fun q => G.2.2.1 ≤ q) := by
  refine Met.ofW (cc := b_X_about) (maxL := 4) (ret := (some .int)) (by decide) rfl ?_
  intro p e s m args below meth c s₁ B hml hv
  obtain ⟨rfl, hT, hM⟩ := hv
  have hx := B.exec
  have hb := B.bytes
  have hr := B.returns
  have hts : ∀ w ∈ gG, w.before _ s = true := fun w h => atoms_spec (ws := w_X_about) B.pre w (List.mem_cons_of_mem _ h)
  have hown : s.vm.findClass R_X = some m.cls := findClass_of_methodNamed B.named
  have hlocks := B.notSynchronized
  have hl := lv_entry ([.ref (τ.1 0 0), .int a1, .int a2]) (n := 4) (Nat.le_of_ble_eq_true rfl)
  rw [lg_entry_eq]
  skip
  generalize (lg_sl ([.ref (τ.1 0 0), .int a1, .int a2]) ++ List.replicate (4 - (lg_sl ([.ref (τ.1 0 0), .int a1, .int a2])).length) Slot.unset).toArray = ls at hl ⊢
  have hl : lv_has ls 4 [(0, .ref (τ.1 0 0)), (1, .int a1), (2, .int a2)] := hl
  refine lv_aload_n hx hb d_X_about_0 rfl (lv_at hl 0 rfl) ?_
  refine lv_iload_n hx hb d_X_about_1 rfl (lv_at hl 1 rfl) ?_
  refine q_X_53 hx hb hml hown hts hT hM (lz_0 hM) (c_X_thingAt l G τ μ a1) ⟨Nat.le_of_ble_eq_true rfl, Nat.le_of_ble_eq_true rfl⟩ ⟨Nat.zero_le _, Nat.zero_le _⟩ (lv_room (Nat.le_of_ble_eq_true rfl)) hl.1 d_X_about_2 (fun H locs hM ho_2 => ?_) (fun H locs hM i_2 ho_2 hv_2 => ?_)
  · skip
    refine lv_astore_nN (lv' := [(3, .null), (0, .ref (τ.1 0 0)), (1, .int a1), (2, .int a2)]) hx hb d_X_about_5 rfl hl (by decide) rfl (fun ls hl => ?_)
    refine lv_aload_nN hx hb d_X_about_6 rfl (lv_at hl 0 rfl) ?_
    refine lv_ifnonnullN hx hb d_X_about_7 ?_
    refine lv_iconst (v := (-1 : Int32)) hx hb d_X_about_10 (by decide) ?_
    have e_f : f_X_about μ a1 a2 = (-1 : Int32) := by
      exact (oC_n ho_2).trans rfl
    rw [e_f]
    exact W.iret (v := (-1 : Int32)) hx hb hr (fun t ht hW => ⟨rfl, hM.end ht⟩) hM.2.2.1 d_X_about_11
  · skip
    refine lv_astore_n (lv' := [(3, .ref (τ.1 2 i_2)), (0, .ref (τ.1 0 0)), (1, .int a1), (2, .int a2)]) hx hb d_X_about_5 rfl hl (by decide) rfl (fun ls hl => ?_)
    refine lv_aload_n hx hb d_X_about_6 rfl (lv_at hl 0 rfl) ?_
    refine lv_ifnonnull (tgt := 12) hx hb d_X_about_7 (by decide) ?_
    refine lv_iload_n hx hb d_X_about_12 rfl (lv_at hl 3 rfl) ?_
    by_cases c_13_0 : a2 = (0 : Int32)
    · skip
      refine lv_tableIn (tgt := 44) hx hb d_X_about_13 (by rw [c_13_0]; decide) (by rw [c_13_0]; decide) (by rw [c_13_0]; rfl) (by decide) ?_
      refine lv_aload_n hx hb d_X_about_44 rfl (lv_at hl 0 rfl) ?_
      refine gf_X_57 hx hb hts hown hT hM hv_2 d_X_about_45 ?_
      have e_f : f_X_about μ a1 a2 = μ.1 2 i_2 0 := by
        exact (oC_s ho_2).trans ((if_pos c_13_0).trans rfl)
      rw [e_f]
      exact W.iret (v := μ.1 2 i_2 0) hx hb hr (fun t ht hW => ⟨rfl, hM.end ht⟩) hM.2.2.1 d_X_about_48
    · skip
      by_cases c_13_1 : a2 = (1 : Int32)
      · skip
        refine lv_tableIn (tgt := 49) hx hb d_X_about_13 (by rw [c_13_1]; decide) (by rw [c_13_1]; decide) (by rw [c_13_1]; rfl) (by decide) ?_
        refine lv_aload_n hx hb d_X_about_49 rfl (lv_at hl 0 rfl) ?_
        refine gf_X_79 hx hb hts hown hT hM hv_2 d_X_about_50 ?_
        have e_f : f_X_about μ a1 a2 = μ.1 2 i_2 1 := by
          exact (oC_s ho_2).trans ((if_neg c_13_0).trans ((if_pos c_13_1).trans rfl))
        rw [e_f]
        exact W.iret (v := μ.1 2 i_2 1) hx hb hr (fun t ht hW => ⟨rfl, hM.end ht⟩) hM.2.2.1 d_X_about_53
      · skip
        by_cases c_13_2 : a2 = (2 : Int32)
        · skip
          refine lv_tableIn (tgt := 54) hx hb d_X_about_13 (by rw [c_13_2]; decide) (by rw [c_13_2]; decide) (by rw [c_13_2]; rfl) (by decide) ?_
          refine lv_aload_n hx hb d_X_about_54 rfl (lv_at hl 0 rfl) ?_
          refine gf_X_72 hx hb hts hown hT hM hv_2 d_X_about_55 ?_
          have e_f : f_X_about μ a1 a2 = μ.1 2 i_2 2 := by
            exact (oC_s ho_2).trans ((if_neg c_13_0).trans ((if_neg c_13_1).trans ((if_pos c_13_2).trans rfl)))
          rw [e_f]
          exact W.iret (v := μ.1 2 i_2 2) hx hb hr (fun t ht hW => ⟨rfl, hM.end ht⟩) hM.2.2.1 d_X_about_58
        · skip
          by_cases c_13_3 : a2 = (3 : Int32)
          · skip
            refine lv_tableIn (tgt := 59) hx hb d_X_about_13 (by rw [c_13_3]; decide) (by rw [c_13_3]; decide) (by rw [c_13_3]; rfl) (by decide) ?_
            refine lv_aload_n hx hb d_X_about_59 rfl (lv_at hl 1 rfl) ?_
            refine lv_iload_n hx hb d_X_about_60 rfl (lv_at hl 2 rfl) ?_
            refine q_X_82 hx hb hml hown hts hT hM (lz_0 hM) (c_X_lyingJustIn l G τ μ a1 (hI) ((thingAt_in ho_2).1)) ⟨Nat.le_of_ble_eq_true rfl, Nat.le_of_ble_eq_true rfl⟩ ⟨Nat.zero_le _, Nat.zero_le _⟩ (lv_room (Nat.le_of_ble_eq_true rfl)) hl.1 d_X_about_61 (fun H locs hM => ?_)
            have e_f : f_X_about μ a1 a2 = (f_X_lyingJustIn μ a1) := by
              exact (oC_s ho_2).trans ((if_neg c_13_0).trans ((if_neg c_13_1).trans ((if_neg c_13_2).trans ((if_pos c_13_3).trans rfl))))
            rw [e_f]
            exact W.iret (v := (f_X_lyingJustIn μ a1)) hx hb hr (fun t ht hW => ⟨rfl, hM.end ht⟩) hM.2.2.1 d_X_about_64
          · skip
            refine lv_tableOut (tgt := 65) hx hb d_X_about_13 (by have h0 := sw_ne 0 (by decide) c_13_0; have h1 := sw_ne 1 (by decide) c_13_1; have h2 := sw_ne 2 (by decide) c_13_2; have h3 := sw_ne 3 (by decide) c_13_3; omega) (by decide) ?_
            refine lv_iconst (v := (-1 : Int32)) hx hb d_X_about_65 (by decide) ?_
            have e_f : f_X_about μ a1 a2 = (-1 : Int32) := by
              exact (oC_s ho_2).trans ((if_neg c_13_0).trans ((if_neg c_13_1).trans ((if_neg c_13_2).trans ((if_neg c_13_3).trans rfl))))
            rw [e_f]
            exact W.iret (v := (-1 : Int32)) hx hb hr (fun t ht hW => ⟨rfl, hM.end ht⟩) hM.2.2.1 d_X_about_66
set_option maxHeartbeats 4000000 in
set_option maxRecDepth 100000 in
theorem c_X_isSort (l : Launch) (G : mG) (τ : mTau) (μ : mMem) (a1 : Int32) : Met l y_X_isSort w_X_isSort r_X_isSort (mPc G τ μ [.int a1]) (mQ G τ (some (.int (f_X_isSort μ a1))) μ) 0 0 (fun q => G.2.2.1 ≤ q) := by
  refine Met.ofW (cc := b_X_isSort) (maxL := 1) (ret := (some .boolean)) (by decide) rfl ?_
  intro p e s m args below meth c s₁ B hml hv
  obtain ⟨rfl, hT, hM⟩ := hv
  have hx := B.exec
  have hb := B.bytes
  have hr := B.returns
  have hts : ∀ w ∈ gG, w.before _ s = true := fun w h => atoms_spec (ws := w_X_isSort) B.pre w (List.mem_cons_of_mem _ h)
  have hown : s.vm.findClass R_X = some m.cls := findClass_of_methodNamed B.named
  have hlocks := B.notSynchronized
  have hl := lv_entry ([.int a1]) (n := 1) (Nat.le_of_ble_eq_true rfl)
  rw [lg_entry_eq]
  skip
  generalize (lg_sl ([.int a1]) ++ List.replicate (1 - (lg_sl ([.int a1])).length) Slot.unset).toArray = ls at hl ⊢
  have hl : lv_has ls 1 [(0, .int a1)] := hl
  refine lv_iload_n hx hb d_X_isSort_0 rfl (lv_at hl 0 rfl) ?_
  refine lv_if_lt (tgt := 16) hx hb d_X_isSort_1 (by decide) (fun c_1 => ?_) (fun c_1 => ?_)
  · skip
    refine lv_iconst (v := (0 : Int32)) hx hb d_X_isSort_16 (by decide) ?_
    have e_f : f_X_isSort μ a1 = (0 : Int32) := by
      exact (if_pos c_1).trans rfl
    rw [e_f]
    exact W.zret (v := (0 : Int32)) hx hb hr rfl (fun t ht hW => ⟨rfl, hM.end ht⟩) hM.2.2.1 d_X_isSort_17
  · skip
    refine lv_iload_n hx hb d_X_isSort_4 rfl (lv_at hl 0 rfl) ?_
    refine mw_tget hx hb hT.2.2.2.2 hM.2.1 hts hown kw_fieldLink_226_MOST_COLLECTED__I d_X_isSort_5 (fun t_5 ht_5 => ?_)
    refine mw_tlen (v := (3 : Int32)) hx hb ht_5 hM.2.1 rfl d_X_isSort_8 ?_
    refine lv_icmp_ge (tgt := 16) hx hb d_X_isSort_9 (by decide) (fun c_9 => ?_) (fun c_9 => ?_)
    · skip
      refine lv_iconst (v := (0 : Int32)) hx hb d_X_isSort_16 (by decide) ?_
      have e_f : f_X_isSort μ a1 = (0 : Int32) := by
        exact (if_neg c_1).trans ((if_pos c_9).trans rfl)
      rw [e_f]
      exact W.zret (v := (0 : Int32)) hx hb hr rfl (fun t ht hW => ⟨rfl, hM.end ht⟩) hM.2.2.1 d_X_isSort_17
    · skip
      refine lv_iconst (v := (1 : Int32)) hx hb d_X_isSort_12 (by decide) ?_
      refine lv_goto (tgt := 17) hx hb d_X_isSort_13 (by decide) ?_
      have e_f : f_X_isSort μ a1 = (1 : Int32) := by
        exact (if_neg c_1).trans ((if_neg c_9).trans rfl)
      rw [e_f]
      exact W.zret (v := (1 : Int32)) hx hb hr rfl (fun t ht hW => ⟨rfl, hM.end ht⟩) hM.2.2.1 d_X_isSort_17
set_option maxHeartbeats 4000000 in
set_option maxRecDepth 100000 in
theorem c_X_fits (l : Launch) (G : mG) (τ : mTau) (μ : mMem) (a1 : Int32) (a2 : Int32) : Met l y_X_fits w_X_fits r_X_fits (mPc G τ μ [.int a1, .int a2]) (mQ G τ (some (.int (f_X_fits μ a1 a2))) μ) 0 0 (fun q => G.2.2.1 ≤ q) := by
  refine Met.ofW (cc := b_X_fits) (maxL := 2) (ret := (some .boolean)) (by decide) rfl ?_
  intro p e s m args below meth c s₁ B hml hv
  obtain ⟨rfl, hT, hM⟩ := hv
  have hx := B.exec
  have hb := B.bytes
  have hr := B.returns
  have hts : ∀ w ∈ gG, w.before _ s = true := fun w h => atoms_spec (ws := w_X_fits) B.pre w (List.mem_cons_of_mem _ h)
  have hown : s.vm.findClass R_X = some m.cls := findClass_of_methodNamed B.named
  have hlocks := B.notSynchronized
  have hl := lv_entry ([.int a1, .int a2]) (n := 2) (Nat.le_of_ble_eq_true rfl)
  rw [lg_entry_eq]
  skip
  generalize (lg_sl ([.int a1, .int a2]) ++ List.replicate (2 - (lg_sl ([.int a1, .int a2])).length) Slot.unset).toArray = ls at hl ⊢
  have hl : lv_has ls 2 [(0, .int a1), (1, .int a2)] := hl
  refine lv_iload_n hx hb d_X_fits_0 rfl (lv_at hl 0 rfl) ?_
  refine lv_if_ne (tgt := 22) hx hb d_X_fits_1 (by decide) (fun c_1 => ?_) (fun c_1 => ?_)
  · skip
    refine lv_iload_n hx hb d_X_fits_22 rfl (lv_at hl 0 rfl) ?_
    refine lv_iconst (v := (1 : Int32)) hx hb d_X_fits_23 (by decide) ?_
    refine lv_icmp_ne (tgt := 57) hx hb d_X_fits_24 (by decide) (fun c_24 => ?_) (fun c_24 => ?_)
    · skip
      refine lv_iload_n hx hb d_X_fits_57 rfl (lv_at hl 1 rfl) ?_
      refine lv_if_lt (tgt := 72) hx hb d_X_fits_58 (by decide) (fun c_58 => ?_) (fun c_58 => ?_)
      · skip
        refine lv_iconst (v := (0 : Int32)) hx hb d_X_fits_72 (by decide) ?_
        have e_f : f_X_fits μ a1 a2 = (0 : Int32) := by
          exact (if_neg c_1).trans ((if_neg c_24).trans ((if_pos c_58).trans rfl))
        rw [e_f]
        exact W.zret (v := (0 : Int32)) hx hb hr rfl (fun t ht hW => ⟨rfl, hM.end ht⟩) hM.2.2.1 d_X_fits_73
      · skip
        refine lv_iload_n hx hb d_X_fits_61 rfl (lv_at hl 1 rfl) ?_
        refine lv_sipush (v := (255 : Int32)) hx hb d_X_fits_62 (by decide) ?_
        refine lv_icmp_gt (tgt := 72) hx hb d_X_fits_65 (by decide) (fun c_65 => ?_) (fun c_65 => ?_)
        · skip
          refine lv_iconst (v := (0 : Int32)) hx hb d_X_fits_72 (by decide) ?_
          have e_f : f_X_fits μ a1 a2 = (0 : Int32) := by
            exact (if_neg c_1).trans ((if_neg c_24).trans ((if_neg c_58).trans ((if_pos c_65).trans rfl)))
          rw [e_f]
          exact W.zret (v := (0 : Int32)) hx hb hr rfl (fun t ht hW => ⟨rfl, hM.end ht⟩) hM.2.2.1 d_X_fits_73
        · skip
          refine lv_iconst (v := (1 : Int32)) hx hb d_X_fits_68 (by decide) ?_
          refine lv_goto (tgt := 73) hx hb d_X_fits_69 (by decide) ?_
          have e_f : f_X_fits μ a1 a2 = (1 : Int32) := by
            exact (if_neg c_1).trans ((if_neg c_24).trans ((if_neg c_58).trans ((if_neg c_65).trans rfl)))
          rw [e_f]
          exact W.zret (v := (1 : Int32)) hx hb hr rfl (fun t ht hW => ⟨rfl, hM.end ht⟩) hM.2.2.1 d_X_fits_73
    · skip
      refine lv_iload_n hx hb d_X_fits_27 rfl (lv_at hl 1 rfl) ?_
      refine lv_bipush (v := (97 : Int32)) hx hb d_X_fits_28 (by decide) ?_
      refine lv_icmp_lt (tgt := 39) hx hb d_X_fits_30 (by decide) (fun c_30 => ?_) (fun c_30 => ?_)
      · skip
        refine lv_iload_n hx hb d_X_fits_39 rfl (lv_at hl 1 rfl) ?_
        refine lv_bipush (v := (46 : Int32)) hx hb d_X_fits_40 (by decide) ?_
        refine lv_icmp_eq (tgt := 51) hx hb d_X_fits_42 (by decide) (fun c_42 => ?_) (fun c_42 => ?_)
        · skip
          refine lv_iconst (v := (1 : Int32)) hx hb d_X_fits_51 (by decide) ?_
          refine lv_goto (tgt := 56) hx hb d_X_fits_52 (by decide) ?_
          have e_f : f_X_fits μ a1 a2 = (1 : Int32) := by
            exact (if_neg c_1).trans ((if_pos c_24).trans ((if_pos c_30).trans ((if_pos c_42).trans rfl)))
          rw [e_f]
          exact W.zret (v := (1 : Int32)) hx hb hr rfl (fun t ht hW => ⟨rfl, hM.end ht⟩) hM.2.2.1 d_X_fits_56
        · skip
          refine lv_iload_n hx hb d_X_fits_45 rfl (lv_at hl 1 rfl) ?_
          refine lv_bipush (v := (47 : Int32)) hx hb d_X_fits_46 (by decide) ?_
          refine lv_icmp_ne (tgt := 55) hx hb d_X_fits_48 (by decide) (fun c_48 => ?_) (fun c_48 => ?_)
          · skip
            refine lv_iconst (v := (0 : Int32)) hx hb d_X_fits_55 (by decide) ?_
            have e_f : f_X_fits μ a1 a2 = (0 : Int32) := by
              exact (if_neg c_1).trans ((if_pos c_24).trans ((if_pos c_30).trans ((if_neg c_42).trans ((if_neg c_48).trans rfl))))
            rw [e_f]
            exact W.zret (v := (0 : Int32)) hx hb hr rfl (fun t ht hW => ⟨rfl, hM.end ht⟩) hM.2.2.1 d_X_fits_56
          · skip
            refine lv_iconst (v := (1 : Int32)) hx hb d_X_fits_51 (by decide) ?_
            refine lv_goto (tgt := 56) hx hb d_X_fits_52 (by decide) ?_
            have e_f : f_X_fits μ a1 a2 = (1 : Int32) := by
              exact (if_neg c_1).trans ((if_pos c_24).trans ((if_pos c_30).trans ((if_neg c_42).trans ((if_pos c_48).trans rfl))))
            rw [e_f]
            exact W.zret (v := (1 : Int32)) hx hb hr rfl (fun t ht hW => ⟨rfl, hM.end ht⟩) hM.2.2.1 d_X_fits_56
      · skip
        refine lv_iload_n hx hb d_X_fits_33 rfl (lv_at hl 1 rfl) ?_
        refine lv_bipush (v := (122 : Int32)) hx hb d_X_fits_34 (by decide) ?_
        refine lv_icmp_le (tgt := 51) hx hb d_X_fits_36 (by decide) (fun c_36 => ?_) (fun c_36 => ?_)
        · skip
          refine lv_iconst (v := (1 : Int32)) hx hb d_X_fits_51 (by decide) ?_
          refine lv_goto (tgt := 56) hx hb d_X_fits_52 (by decide) ?_
          have e_f : f_X_fits μ a1 a2 = (1 : Int32) := by
            exact (if_neg c_1).trans ((if_pos c_24).trans ((if_neg c_30).trans ((if_pos c_36).trans rfl)))
          rw [e_f]
          exact W.zret (v := (1 : Int32)) hx hb hr rfl (fun t ht hW => ⟨rfl, hM.end ht⟩) hM.2.2.1 d_X_fits_56
        · skip
          refine lv_iload_n hx hb d_X_fits_39 rfl (lv_at hl 1 rfl) ?_
          refine lv_bipush (v := (46 : Int32)) hx hb d_X_fits_40 (by decide) ?_
          refine lv_icmp_eq (tgt := 51) hx hb d_X_fits_42 (by decide) (fun c_42 => ?_) (fun c_42 => ?_)
          · skip
            refine lv_iconst (v := (1 : Int32)) hx hb d_X_fits_51 (by decide) ?_
            refine lv_goto (tgt := 56) hx hb d_X_fits_52 (by decide) ?_
            have e_f : f_X_fits μ a1 a2 = (1 : Int32) := by
              exact (if_neg c_1).trans ((if_pos c_24).trans ((if_neg c_30).trans ((if_neg c_36).trans ((if_pos c_42).trans rfl))))
            rw [e_f]
            exact W.zret (v := (1 : Int32)) hx hb hr rfl (fun t ht hW => ⟨rfl, hM.end ht⟩) hM.2.2.1 d_X_fits_56
          · skip
            refine lv_iload_n hx hb d_X_fits_45 rfl (lv_at hl 1 rfl) ?_
            refine lv_bipush (v := (47 : Int32)) hx hb d_X_fits_46 (by decide) ?_
            refine lv_icmp_ne (tgt := 55) hx hb d_X_fits_48 (by decide) (fun c_48 => ?_) (fun c_48 => ?_)
            · skip
              refine lv_iconst (v := (0 : Int32)) hx hb d_X_fits_55 (by decide) ?_
              have e_f : f_X_fits μ a1 a2 = (0 : Int32) := by
                exact (if_neg c_1).trans ((if_pos c_24).trans ((if_neg c_30).trans ((if_neg c_36).trans ((if_neg c_42).trans ((if_neg c_48).trans rfl)))))
              rw [e_f]
              exact W.zret (v := (0 : Int32)) hx hb hr rfl (fun t ht hW => ⟨rfl, hM.end ht⟩) hM.2.2.1 d_X_fits_56
            · skip
              refine lv_iconst (v := (1 : Int32)) hx hb d_X_fits_51 (by decide) ?_
              refine lv_goto (tgt := 56) hx hb d_X_fits_52 (by decide) ?_
              have e_f : f_X_fits μ a1 a2 = (1 : Int32) := by
                exact (if_neg c_1).trans ((if_pos c_24).trans ((if_neg c_30).trans ((if_neg c_36).trans ((if_neg c_42).trans ((if_pos c_48).trans rfl)))))
              rw [e_f]
              exact W.zret (v := (1 : Int32)) hx hb hr rfl (fun t ht hW => ⟨rfl, hM.end ht⟩) hM.2.2.1 d_X_fits_56
  · skip
    refine lv_iload_n hx hb d_X_fits_4 rfl (lv_at hl 1 rfl) ?_
    refine lv_bipush (v := (32 : Int32)) hx hb d_X_fits_5 (by decide) ?_
    refine lv_icmp_lt (tgt := 20) hx hb d_X_fits_7 (by decide) (fun c_7 => ?_) (fun c_7 => ?_)
    · skip
      refine lv_iconst (v := (0 : Int32)) hx hb d_X_fits_20 (by decide) ?_
      have e_f : f_X_fits μ a1 a2 = (0 : Int32) := by
        exact (if_pos c_1).trans ((if_pos c_7).trans rfl)
      rw [e_f]
      exact W.zret (v := (0 : Int32)) hx hb hr rfl (fun t ht hW => ⟨rfl, hM.end ht⟩) hM.2.2.1 d_X_fits_21
    · skip
      refine lv_iload_n hx hb d_X_fits_10 rfl (lv_at hl 1 rfl) ?_
      refine lv_bipush (v := (126 : Int32)) hx hb d_X_fits_11 (by decide) ?_
      refine lv_icmp_gt (tgt := 20) hx hb d_X_fits_13 (by decide) (fun c_13 => ?_) (fun c_13 => ?_)
      · skip
        refine lv_iconst (v := (0 : Int32)) hx hb d_X_fits_20 (by decide) ?_
        have e_f : f_X_fits μ a1 a2 = (0 : Int32) := by
          exact (if_pos c_1).trans ((if_neg c_7).trans ((if_pos c_13).trans rfl))
        rw [e_f]
        exact W.zret (v := (0 : Int32)) hx hb hr rfl (fun t ht hW => ⟨rfl, hM.end ht⟩) hM.2.2.1 d_X_fits_21
      · skip
        refine lv_iconst (v := (1 : Int32)) hx hb d_X_fits_16 (by decide) ?_
        refine lv_goto (tgt := 21) hx hb d_X_fits_17 (by decide) ?_
        have e_f : f_X_fits μ a1 a2 = (1 : Int32) := by
          exact (if_pos c_1).trans ((if_neg c_7).trans ((if_neg c_13).trans rfl))
        rw [e_f]
        exact W.zret (v := (1 : Int32)) hx hb hr rfl (fun t ht hW => ⟨rfl, hM.end ht⟩) hM.2.2.1 d_X_fits_21
set_option maxHeartbeats 4000000 in
set_option maxRecDepth 100000 in
theorem c_C_isFull (l : Launch) (G : mG) (τ : mTau) (μ : mMem) (a1 : Int32) : Met l y_C_isFull w_C_isFull r_C_isFull (mPc G τ μ [.ref (τ.1 7 0), .int a1]) (mQ G τ (some (.int (f_C_isFull μ a1))) μ) 0 0 (fun q => G.2.2.1 ≤ q) := by
  refine Met.ofW (cc := b_C_isFull) (maxL := 2) (ret := (some .boolean)) (by decide) rfl ?_
  intro p e s m args below meth c s₁ B hml hv
  obtain ⟨rfl, hT, hM⟩ := hv
  have hx := B.exec
  have hb := B.bytes
  have hr := B.returns
  have hts : ∀ w ∈ gG, w.before _ s = true := fun w h => atoms_spec (ws := w_C_isFull) B.pre w (List.mem_cons_of_mem _ h)
  have hown : s.vm.findClass R_C = some m.cls := findClass_of_methodNamed B.named
  have hlocks := B.notSynchronized
  have hl := lv_entry ([.ref (τ.1 7 0), .int a1]) (n := 2) (Nat.le_of_ble_eq_true rfl)
  rw [lg_entry_eq]
  skip
  generalize (lg_sl ([.ref (τ.1 7 0), .int a1]) ++ List.replicate (2 - (lg_sl ([.ref (τ.1 7 0), .int a1])).length) Slot.unset).toArray = ls at hl ⊢
  have hl : lv_has ls 2 [(0, .ref (τ.1 7 0)), (1, .int a1)] := hl
  refine lv_iload_n hx hb d_C_isFull_0 rfl (lv_at hl 1 rfl) ?_
  refine q_C_22 hx hb hml hown hts hT hM (c_X_isSort l G τ μ a1) ⟨Nat.le_of_ble_eq_true rfl, Nat.le_of_ble_eq_true rfl⟩ ⟨Nat.zero_le _, Nat.zero_le _⟩ (lv_room (Nat.le_of_ble_eq_true rfl)) hl.1 d_C_isFull_1 (fun H locs hM => ?_)
  refine lv_if_eq (tgt := 21) hx hb d_C_isFull_4 (by decide) (fun c_4 => ?_) (fun c_4 => ?_)
  · skip
    refine lv_iconst (v := (1 : Int32)) hx hb d_C_isFull_21 (by decide) ?_
    refine lv_goto (tgt := 26) hx hb d_C_isFull_22 (by decide) ?_
    have e_f : f_C_isFull μ a1 = (1 : Int32) := by
      exact (if_pos c_4).trans rfl
    rw [e_f]
    exact W.zret (v := (1 : Int32)) hx hb hr rfl (fun t ht hW => ⟨rfl, hM.end ht⟩) hM.2.2.1 d_C_isFull_26
  · skip
    have hs := sort_in c_4
    refine lv_aload_n hx hb d_C_isFull_7 rfl (lv_at hl 0 rfl) ?_
    refine gf_C_13 hx hb hts hown hT hM (lz_7 hM) d_C_isFull_8 ?_
    refine lv_iload_n hx hb d_C_isFull_11 rfl (lv_at hl 1 rfl) ?_
    refine al_8 hx hb hT hM (lz_8 hM) (by first | assumption | exact vin 3 (b := 3) (by decide) (by assumption) (by assumption)) d_C_isFull_12 ?_
    refine mw_tgetN hx hb hT.2.2.2.2 hT hM.2.1 hown kn0 d_C_isFull_13 (fun t_13 ht_13 => ?_)
    refine lv_iload_n hx hb d_C_isFull_16 rfl (lv_at hl 1 rfl) ?_
    refine mw_tald hx hb ht_13 hM.2.1 (by first | assumption | exact vin 3 (b := 3) (by decide) (by assumption) (by assumption)) d_C_isFull_17 ?_
    refine lv_icmp_lt (tgt := 25) hx hb d_C_isFull_18 (by decide) (fun c_18 => ?_) (fun c_18 => ?_)
    · skip
      refine lv_iconst (v := (0 : Int32)) hx hb d_C_isFull_25 (by decide) ?_
      have e_f : f_C_isFull μ a1 = (0 : Int32) := by
        exact (if_neg c_4).trans ((if_pos c_18).trans rfl)
      rw [e_f]
      exact W.zret (v := (0 : Int32)) hx hb hr rfl (fun t ht hW => ⟨rfl, hM.end ht⟩) hM.2.2.1 d_C_isFull_26
    · skip
      refine lv_iconst (v := (1 : Int32)) hx hb d_C_isFull_21 (by decide) ?_
      refine lv_goto (tgt := 26) hx hb d_C_isFull_22 (by decide) ?_
      have e_f : f_C_isFull μ a1 = (1 : Int32) := by
        exact (if_neg c_4).trans ((if_neg c_18).trans rfl)
      rw [e_f]
      exact W.zret (v := (1 : Int32)) hx hb hr rfl (fun t ht hW => ⟨rfl, hM.end ht⟩) hM.2.2.1 d_C_isFull_26
set_option maxHeartbeats 4000000 in
set_option maxRecDepth 100000 in
theorem c_C_append (l : Launch) (G : mG) (τ : mTau) (μ : mMem) (a1 : Int32) (a2 : Int32) : Met l y_C_append w_C_append r_C_append (mPc G τ μ [.ref (τ.1 7 0), .int a1, .int a2]) (mQ G τ none (f_C_append μ a1 a2)) 0 0 (fun q => G.2.2.1 ≤ q) := by
  refine Met.ofW (cc := b_C_append) (maxL := 3) (ret := none) (by decide) rfl ?_
  intro p e s m args below meth c s₁ B hml hv
  obtain ⟨rfl, hT, hM⟩ := hv
  have hx := B.exec
  have hb := B.bytes
  have hr := B.returns
  have hts : ∀ w ∈ gG, w.before _ s = true := fun w h => atoms_spec (ws := w_C_append) B.pre w (List.mem_cons_of_mem _ h)
  have hown : s.vm.findClass R_C = some m.cls := findClass_of_methodNamed B.named
  have hlocks := B.notSynchronized
  have hl := lv_entry ([.ref (τ.1 7 0), .int a1, .int a2]) (n := 3) (Nat.le_of_ble_eq_true rfl)
  rw [lg_entry_eq]
  skip
  generalize (lg_sl ([.ref (τ.1 7 0), .int a1, .int a2]) ++ List.replicate (3 - (lg_sl ([.ref (τ.1 7 0), .int a1, .int a2])).length) Slot.unset).toArray = ls at hl ⊢
  have hl : lv_has ls 3 [(0, .ref (τ.1 7 0)), (1, .int a1), (2, .int a2)] := hl
  refine lv_iload_n hx hb d_C_append_0 rfl (lv_at hl 1 rfl) ?_
  refine q_C_22 hx hb hml hown hts hT hM (c_X_isSort l G τ μ a1) ⟨Nat.le_of_ble_eq_true rfl, Nat.le_of_ble_eq_true rfl⟩ ⟨Nat.zero_le _, Nat.zero_le _⟩ (lv_room (Nat.le_of_ble_eq_true rfl)) hl.1 d_C_append_1 (fun H locs hM => ?_)
  refine lv_if_eq (tgt := 38) hx hb d_C_append_4 (by decide) (fun c_4 => ?_) (fun c_4 => ?_)
  · skip
    have e_f : f_C_append μ a1 a2 = μ := by
      exact (if_pos c_4).trans rfl
    rw [e_f]
    exact W.vret hx hb hr (fun t ht hW => ⟨rfl, hM.end ht⟩) hM.2.2.1 d_C_append_38
  · skip
    have hs := sort_in c_4
    refine lv_aload_n hx hb d_C_append_7 rfl (lv_at hl 0 rfl) ?_
    refine gf_C_18 hx hb hts hown hT hM (lz_7 hM) d_C_append_8 ?_
    refine lv_iload_n hx hb d_C_append_11 rfl (lv_at hl 1 rfl) ?_
    refine lv_ldc2 (v := (31 : Int64)) hx hb hown (hts _ kw_constantLong_Collected_26_31) d_C_append_12 ?_
    refine lv_aload_n hx hb d_C_append_15 rfl (lv_at hl 0 rfl) ?_
    refine gf_C_18 hx hb hts hown hT hM (lz_7 hM) d_C_append_16 ?_
    refine lv_iload_n hx hb d_C_append_19 rfl (lv_at hl 1 rfl) ?_
    refine al_9 hx hb hT hM (lz_9 hM) (by first | assumption | exact vin 3 (b := 3) (by decide) (by assumption) (by assumption)) d_C_append_20 ?_
    refine lv_lmul hx hb d_C_append_21 ?_
    refine lv_iload_n hx hb d_C_append_22 rfl (lv_at hl 2 rfl) ?_
    refine lv_i2l hx hb d_C_append_23 rfl ?_
    refine lv_ladd hx hb d_C_append_24 ?_
    refine lv_lconst (v := (1 : Int64)) hx hb d_C_append_25 (by decide) ?_
    refine lv_ladd hx hb d_C_append_26 ?_
    refine as_9 hx hb hT hM (lz_9 hM) (by first | assumption | exact vin 3 (b := 3) (by decide) (by assumption) (by assumption)) d_C_append_27 (fun m_27 H locs e_27 hM => ?_)
    refine lv_aload_n hx hb d_C_append_28 rfl (lv_at hl 0 rfl) ?_
    refine gf_C_13 hx hb hts hown hT hM (lz_7 hM) d_C_append_29 ?_
    refine lv_iload_n hx hb d_C_append_32 rfl (lv_at hl 1 rfl) ?_
    refine lv_dup2_11 hx hb d_C_append_33 rfl rfl ?_
    refine al_8 hx hb hT hM (lz_8 hM) (by first | assumption | exact vin 3 (b := 3) (by decide) (by assumption) (by assumption)) d_C_append_34 ?_
    refine lv_iconst (v := (1 : Int32)) hx hb d_C_append_35 (by decide) ?_
    refine lv_iadd hx hb d_C_append_36 ?_
    refine as_8 hx hb hT hM (lz_8 hM) (by first | assumption | exact vin 3 (b := 3) (by decide) (by assumption) (by assumption)) d_C_append_37 (fun m_37 H locs e_37 hM => ?_)
    have e_f : f_C_append μ a1 a2 = m_37 := by
      subst e_37 e_27
      exact (if_neg c_4).trans rfl
    rw [e_f]
    exact W.vret hx hb hr (fun t ht hW => ⟨rfl, hM.end ht⟩) hM.2.2.1 d_C_append_38
set_option maxHeartbeats 4000000 in
set_option maxRecDepth 100000 in
theorem c_C_size (l : Launch) (G : mG) (τ : mTau) (μ : mMem) (a1 : Int32) : Met l y_C_size w_C_size r_C_size (mPc G τ μ [.ref (τ.1 7 0), .int a1]) (mQ G τ (some (.int (f_C_size μ a1))) μ) 0 0 (fun q => G.2.2.1 ≤ q) := by
  refine Met.ofW (cc := b_C_size) (maxL := 2) (ret := (some .int)) (by decide) rfl ?_
  intro p e s m args below meth c s₁ B hml hv
  obtain ⟨rfl, hT, hM⟩ := hv
  have hx := B.exec
  have hb := B.bytes
  have hr := B.returns
  have hts : ∀ w ∈ gG, w.before _ s = true := fun w h => atoms_spec (ws := w_C_size) B.pre w (List.mem_cons_of_mem _ h)
  have hown : s.vm.findClass R_C = some m.cls := findClass_of_methodNamed B.named
  have hlocks := B.notSynchronized
  have hl := lv_entry ([.ref (τ.1 7 0), .int a1]) (n := 2) (Nat.le_of_ble_eq_true rfl)
  rw [lg_entry_eq]
  skip
  generalize (lg_sl ([.ref (τ.1 7 0), .int a1]) ++ List.replicate (2 - (lg_sl ([.ref (τ.1 7 0), .int a1])).length) Slot.unset).toArray = ls at hl ⊢
  have hl : lv_has ls 2 [(0, .ref (τ.1 7 0)), (1, .int a1)] := hl
  refine lv_iload_n hx hb d_C_size_0 rfl (lv_at hl 1 rfl) ?_
  refine q_C_22 hx hb hml hown hts hT hM (c_X_isSort l G τ μ a1) ⟨Nat.le_of_ble_eq_true rfl, Nat.le_of_ble_eq_true rfl⟩ ⟨Nat.zero_le _, Nat.zero_le _⟩ (lv_room (Nat.le_of_ble_eq_true rfl)) hl.1 d_C_size_1 (fun H locs hM => ?_)
  refine lv_if_eq (tgt := 16) hx hb d_C_size_4 (by decide) (fun c_4 => ?_) (fun c_4 => ?_)
  · skip
    refine lv_iconst (v := (0 : Int32)) hx hb d_C_size_16 (by decide) ?_
    have e_f : f_C_size μ a1 = (0 : Int32) := by
      exact (if_pos c_4).trans rfl
    rw [e_f]
    exact W.iret (v := (0 : Int32)) hx hb hr (fun t ht hW => ⟨rfl, hM.end ht⟩) hM.2.2.1 d_C_size_17
  · skip
    have hs := sort_in c_4
    refine lv_aload_n hx hb d_C_size_7 rfl (lv_at hl 0 rfl) ?_
    refine gf_C_13 hx hb hts hown hT hM (lz_7 hM) d_C_size_8 ?_
    refine lv_iload_n hx hb d_C_size_11 rfl (lv_at hl 1 rfl) ?_
    refine al_8 hx hb hT hM (lz_8 hM) (by first | assumption | exact vin 3 (b := 3) (by decide) (by assumption) (by assumption)) d_C_size_12 ?_
    refine lv_goto (tgt := 17) hx hb d_C_size_13 (by decide) ?_
    have e_f : f_C_size μ a1 = μ.1 8 0 a1.toNatClampNeg := by
      exact (if_neg c_4).trans rfl
    rw [e_f]
    exact W.iret (v := μ.1 8 0 a1.toNatClampNeg) hx hb hr (fun t ht hW => ⟨rfl, hM.end ht⟩) hM.2.2.1 d_C_size_17
