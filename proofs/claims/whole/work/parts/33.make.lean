theorem made_in {μ : mMem} (hI : iX μ) (c : μ.1 0 0 1 < 60) : vp_in (μ.1 0 0 1) 60 := by
  rw [vp_in_iff]
  have h1 := ylt c
  have h2 := hI.1
  have h3 : (60 : Int32).toInt = 60 := rfl
  omega
theorem cl_int {x : Int32} {N : Nat} (h : vp_in x N) (hN : N < 2 ^ 31) : (x.toNatClampNeg : Int) = x.toInt := by
  obtain ⟨j, hj, rfl⟩ := vp_in_of h hN
  rw [nI_clamp (by omega), nI_toInt (by omega)]
theorem ext_0 {τ τ' : mTau} {μ : mMem} {G : mG} {H : Heap} {locs : List Loc} (hM : mw G τ μ H locs) (h : mExt τ τ') (r : Nat) (hr : r ∈ mSing) : τ'.2 r 0 ∧ τ'.1 r 0 = τ.1 r 0 := h r 0 (hM.k.1 r hr)
theorem lv_keep {τ τ2 : mTau} {μ μ5 : mMem} {k : Nat} (hLv : mLv τ μ) (hn : ∀ r i, τ2.2 r i → τ.2 r i ∨ (i = k ∧ (r = 2 ∨ r = 3 ∨ r = 4 ∨ r = 5 ∨ r = 6))) (hm : vp_in (μ.1 0 0 1) 60) (ek : k = (μ.1 0 0 1).toNatClampNeg) (e0 : μ5.1 0 0 1 = μ.1 0 0 1) (e10 : μ5.1 10 = μ.1 10) : mLv τ2 (f_X_keep μ5 k).2 := by
  have em : (f_X_keep μ5 k).2.1 0 0 1 = μ.1 0 0 1 + 1 := by
    show μ5.1 0 0 1 + 1 = _
    rw [e0]
  have e1 : (f_X_keep μ5 k).2.1 10 = μ.1 10 := by
    show μ5.1 10 = _
    exact e10
  have hI := cl_int hm (by decide)
  have hz := vp_in_iff.mp hm
  have h1 : (1 : Int32).toInt = 1 := rfl
  have es : (μ.1 0 0 1 + 1).toInt = (μ.1 0 0 1).toInt + 1 := by rw [sm_add] <;> omega
  refine ⟨fun i h => ?_, fun i h => ?_, fun r i hr h => ?_, fun r i hr h => ?_⟩
  · rcases hn 1 i h with q | q
    · exact hLv.1 i q
    · exact absurd q.2 (by decide)
  · rcases hn 10 i h with q | q
    · exact hLv.2.1 i q
    · exact absurd q.2 (by decide)
  · rw [em, es]
    rcases hn r i h with q | q
    · have := hLv.2.2.1 r i hr q
      omega
    · rw [q.1, ek, hI]
      omega
  · rw [e1]
    rcases hn r i h with q | q
    · exact hLv.2.2.2 r i hr q
    · rcases hr with rfl | rfl
      · exact absurd q.2 (by decide)
      · exact absurd q.2 (by decide)
theorem lv_same {τ : mTau} {μ μ' : mMem} (hLv : mLv τ μ) (e0 : μ'.1 0 0 1 = μ.1 0 0 1) (e10 : μ'.1 10 = μ.1 10) : mLv τ μ' := by
  unfold mLv at hLv ⊢
  rw [e0, e10]
  exact hLv
theorem begin_r {μ : mMem} {i r : Nat} {a b : Int32} {u v : Int64} (h : r ≠ 11) : (f_P_begin μ i a b u v).1 r = μ.1 r := by
  unfold f_P_begin
  dsimp only
  rw [sI_r h, sI_r h, sI_r h, sL_1, sL_1, sI_r h, sI_r h]
theorem lv_begin {τ : mTau} {μ : mMem} {i : Nat} {a b : Int32} {u v : Int64} (hLv : mLv τ μ) : mLv τ (f_P_begin μ i a b u v) := lv_same hLv (by rw [begin_r (by decide)]) (begin_r (by decide))
theorem lv_part {τ τ1 : mTau} {μ : mMem} {k : Nat} (hLv : mLv τ μ) (hn : ∀ r i, τ1.2 r i → τ.2 r i ∨ (i = k ∧ (r = 11 ∨ r = 12))) : mLv τ1 (sI (nPart μ k) 10 0 k 1) := by
  have e0 : (sI (nPart μ k) 10 0 k 1).1 0 0 1 = μ.1 0 0 1 := rfl
  refine ⟨fun i h => ?_, fun i h => ?_, fun r i hr h => ?_, fun r i hr h => ?_⟩
  · rcases hn 1 i h with q | q
    · exact hLv.1 i q
    · exact absurd q.2 (by decide)
  · rcases hn 10 i h with q | q
    · exact hLv.2.1 i q
    · exact absurd q.2 (by decide)
  · rw [e0]
    rcases hn r i h with q | q
    · exact hLv.2.2.1 r i hr q
    · rcases hr with rfl | rfl | rfl | rfl | rfl <;> exact absurd q.2 (by decide)
  · rw [sI_1]
    split
    · decide
    · rename_i hne
      rcases hn r i h with q | q
      · exact hLv.2.2.2 r i hr q
      · exact absurd ⟨rfl, rfl, q.1⟩ hne
def f_X_make (μ : mMem) (a1 : Int32) (a2 : Int32) : Int32 × mMem := 
  if (f_X_isKind μ a1) = (0 : Int32) then ((-1 : Int32), μ)
  else 
    if (μ.1 0 0 1) < (60 : Int32) then 
      if a1 = (0 : Int32) then f_X_keep (nThing (nBuild μ (μ.1 0 0 1).toNatClampNeg) (μ.1 0 0 1).toNatClampNeg 0 (-1) (μ.1 0 0 1)) (μ.1 0 0 1).toNatClampNeg
      else 
        oC (f_X_thingAt μ a2) (((-1 : Int32), μ)) (fun i_49 => 
          if (μ.1 2 i_49 0) = (tLies a1.toNatClampNeg) then 
            if (f_B_isOn μ ((μ.1 2 i_49 2).toNatClampNeg)) = (0 : Int32) then f_X_keep (nThing μ (μ.1 0 0 1).toNatClampNeg a1 a2 (μ.1 2 i_49 2)) (μ.1 0 0 1).toNatClampNeg
            else ((-1 : Int32), μ)
          else ((-1 : Int32), μ))
    else ((-1 : Int32), μ)
def r_X_make : Room := { frames := 2, cells := 5, slots := 28, locals := 36 }
def w_X_make : List Cond := .code y_X_make b_X_make 4 (some .int) :: gG
set_option maxHeartbeats 4000000 in
set_option maxRecDepth 100000 in
theorem c_X_make (l : Launch) (G : mG) (τ : mTau) (μ : mMem) (a1 : Int32) (a2 : Int32) (hI : iX μ) (hLv : mLv τ μ) : Met l y_X_make w_X_make r_X_make (mPc G τ μ [.ref (τ.1 0 0), .int a1, .int a2]) (mQx G τ (some (.int (f_X_make μ a1 a2).1)) (f_X_make μ a1 a2).2) 5 28 (fun q => G.2.2.1 ≤ q) := by
  refine Met.ofW (cc := b_X_make) (maxL := 4) (ret := (some .int)) (by decide) rfl ?_
  intro p e s m args below meth c s₁ B hml hv
  obtain ⟨rfl, hT, hM⟩ := hv
  have hx := B.exec
  have hb := B.bytes
  have hr := B.returns
  have hts : ∀ w ∈ gG, w.before _ s = true := fun w h => atoms_spec (ws := w_X_make) B.pre w (List.mem_cons_of_mem _ h)
  have hown : s.vm.findClass R_X = some m.cls := findClass_of_methodNamed B.named
  have hlocks := B.notSynchronized
  have hl := lv_entry ([.ref (τ.1 0 0), .int a1, .int a2]) (n := 4) (Nat.le_of_ble_eq_true rfl)
  rw [lg_entry_eq]
  skip
  generalize (lg_sl ([.ref (τ.1 0 0), .int a1, .int a2]) ++ List.replicate (4 - (lg_sl ([.ref (τ.1 0 0), .int a1, .int a2])).length) Slot.unset).toArray = ls at hl ⊢
  have hl : lv_has ls 4 [(0, .ref (τ.1 0 0)), (1, .int a1), (2, .int a2)] := hl
  refine lv_iload_n hx hb d_X_make_0 rfl (lv_at hl 1 rfl) ?_
  refine q_X_39 hx hb hml hown hts hT hM (c_X_isKind l G τ μ a1) ⟨Nat.le_of_ble_eq_true rfl, Nat.le_of_ble_eq_true rfl⟩ ⟨Nat.zero_le _, Nat.zero_le _⟩ (lv_room (Nat.le_of_ble_eq_true rfl)) hl.1 d_X_make_1 (fun H locs hM => ?_)
  refine lv_if_eq (tgt := 16) hx hb d_X_make_4 (by decide) (fun c_4 => ?_) (fun c_4 => ?_)
  · skip
    refine lv_iconst (v := (-1 : Int32)) hx hb d_X_make_16 (by decide) ?_
    have e_f : f_X_make μ a1 a2 = ((-1 : Int32), μ) := by
      exact (if_pos c_4).trans rfl
    rw [e_f]
    refine W.widen (k := 5) (n := 28) (Nat.zero_le _) (Nat.zero_le _) ?_
    exact W.iret (v := (-1 : Int32)) hx hb hr (fun t ht hW => ⟨rfl, τ, mExt.rf, hLv, hM.end ht⟩) hM.2.2.1 d_X_make_17
  · skip
    have hkd := kind_in c_4
    refine lv_aload_n hx hb d_X_make_7 rfl (lv_at hl 0 rfl) ?_
    refine gf_X_15 hx hb hts hown hT hM (lz_0 hM) d_X_make_8 ?_
    refine lv_bipush (v := (60 : Int32)) hx hb d_X_make_11 (by decide) ?_
    refine lv_icmp_lt (tgt := 18) hx hb d_X_make_13 (by decide) (fun c_13 => ?_) (fun c_13 => ?_)
    · skip
      refine lv_iload_n hx hb d_X_make_18 rfl (lv_at hl 1 rfl) ?_
      refine lv_if_ne (tgt := 47) hx hb d_X_make_19 (by decide) (fun c_19 => ?_) (fun c_19 => ?_)
      · skip
        refine lv_aload_n hx hb d_X_make_47 rfl (lv_at hl 0 rfl) ?_
        refine lv_iload_n hx hb d_X_make_48 rfl (lv_at hl 2 rfl) ?_
        refine q_X_53 hx hb hml hown hts hT hM (lz_0 hM) (c_X_thingAt l G τ μ a2) ⟨Nat.le_of_ble_eq_true rfl, Nat.le_of_ble_eq_true rfl⟩ ⟨Nat.zero_le _, Nat.zero_le _⟩ (lv_room (Nat.le_of_ble_eq_true rfl)) hl.1 d_X_make_49 (fun H locs hM ho_49 => ?_) (fun H locs hM i_49 ho_49 hv_49 => ?_)
        · skip
          refine lv_astore_nN (lv' := [(3, .null), (0, .ref (τ.1 0 0)), (1, .int a1), (2, .int a2)]) hx hb d_X_make_52 rfl hl (by decide) rfl (fun ls hl => ?_)
          refine lv_aload_nN hx hb d_X_make_53 rfl (lv_at hl 0 rfl) ?_
          refine lv_ifnullN (tgt := 79) hx hb d_X_make_54 (by decide) ?_
          refine lv_iconst (v := (-1 : Int32)) hx hb d_X_make_79 (by decide) ?_
          have e_f : f_X_make μ a1 a2 = ((-1 : Int32), μ) := by
            exact (if_neg c_4).trans ((if_pos c_13).trans ((if_neg c_19).trans ((oC_n ho_49).trans rfl)))
          rw [e_f]
          refine W.widen (k := 5) (n := 28) (Nat.zero_le _) (Nat.zero_le _) ?_
          exact W.iret (v := (-1 : Int32)) hx hb hr (fun t ht hW => ⟨rfl, τ, mExt.rf, hLv, hM.end ht⟩) hM.2.2.1 d_X_make_80
        · skip
          refine lv_astore_n (lv' := [(3, .ref (τ.1 2 i_49)), (0, .ref (τ.1 0 0)), (1, .int a1), (2, .int a2)]) hx hb d_X_make_52 rfl hl (by decide) rfl (fun ls hl => ?_)
          refine lv_aload_n hx hb d_X_make_53 rfl (lv_at hl 0 rfl) ?_
          refine lv_ifnull hx hb d_X_make_54 ?_
          refine lv_aload_n hx hb d_X_make_57 rfl (lv_at hl 0 rfl) ?_
          refine gf_X_57 hx hb hts hown hT hM hv_49 d_X_make_58 ?_
          refine mw_tget hx hb hT.2.2.2.1 hM.2.1 hts hown kw_fieldLink_60_LIES_IN__I d_X_make_61 (fun t_61 ht_61 => ?_)
          refine lv_iload_n hx hb d_X_make_64 rfl (lv_at hl 2 rfl) ?_
          refine mw_tald hx hb ht_61 hM.2.1 (hkd) d_X_make_65 ?_
          refine lv_icmp_ne (tgt := 79) hx hb d_X_make_66 (by decide) (fun c_66 => ?_) (fun c_66 => ?_)
          · skip
            refine lv_iconst (v := (-1 : Int32)) hx hb d_X_make_79 (by decide) ?_
            have e_f : f_X_make μ a1 a2 = ((-1 : Int32), μ) := by
              exact (if_neg c_4).trans ((if_pos c_13).trans ((if_neg c_19).trans ((oC_s ho_49).trans ((if_neg c_66).trans rfl))))
            rw [e_f]
            refine W.widen (k := 5) (n := 28) (Nat.zero_le _) (Nat.zero_le _) ?_
            exact W.iret (v := (-1 : Int32)) hx hb hr (fun t ht hW => ⟨rfl, τ, mExt.rf, hLv, hM.end ht⟩) hM.2.2.1 d_X_make_80
          · skip
            refine lv_aload_n hx hb d_X_make_69 rfl (lv_at hl 0 rfl) ?_
            refine gf_X_64 hx hb hts hown hT hM hv_49 d_X_make_70 ?_
            have hv_70 : τ.2 3 ((μ.1 2 i_49 2).toNatClampNeg) := lz_3 hM hv_49
            refine q_X_68 hx hb hml hown hts hT hM hv_70 (c_B_isOn l G τ μ ((μ.1 2 i_49 2).toNatClampNeg) hv_70) ⟨Nat.le_of_ble_eq_true rfl, Nat.le_of_ble_eq_true rfl⟩ ⟨Nat.zero_le _, Nat.zero_le _⟩ (lv_room (Nat.le_of_ble_eq_true rfl)) hl.1 d_X_make_73 (fun H locs hM => ?_)
            refine lv_if_eq (tgt := 81) hx hb d_X_make_76 (by decide) (fun c_76 => ?_) (fun c_76 => ?_)
            · skip
              refine lv_aload_n hx hb d_X_make_81 rfl (lv_at hl 1 rfl) ?_
              have hm := made_in hI c_13
              have hkI := cl_int hm (by decide)
              obtain ⟨k, ek⟩ : ∃ z : Nat, z = (μ.1 0 0 1).toNatClampNeg := ⟨_, rfl⟩
              have hM0 := hM
              have hX := mx_0 hM
              refine mx_new (ci := 4) (fs := [.int 0, .int 0, .int 0, .null]) (C := R_T) (T := F_T) (N := 4) hx hb hts i_T ft_T ft_T_ok hown kw_classLink_9_Thing kw_instantiable_Thing_4 kw_initialized_Thing hT hX rfl (fun j hj => by rcases (show j = 0 ∨ j = 1 ∨ j = 2 ∨ j = 3 by omega) with rfl | rfl | rfl | rfl <;> rfl) (Nat.le_of_ble_eq_true rfl) (Nat.le_of_ble_eq_true rfl) d_X_make_82 (fun q1 H hX => ?_)
              have hX : mx G τ μ [(q1, .inr (4, [.int 0, .int 0, .int 0, .null]))] H locs := hX
              have hM := hX.1
              refine W.widen (k := 1) (n := 4) (Nat.le_of_ble_eq_true rfl) (Nat.le_of_ble_eq_true rfl) ?_
              refine lv_dup hx hb d_X_make_85 rfl ?_
              refine lv_iload_n hx hb d_X_make_86 rfl (lv_at hl 2 rfl) ?_
              refine lv_iload_n hx hb d_X_make_87 rfl (lv_at hl 3 rfl) ?_
              refine lv_aload_n hx hb d_X_make_88 rfl (lv_at hl 0 rfl) ?_
              refine gf_X_72 hx hb hts hown hT hM hv_49 d_X_make_89 ?_
              refine lv_aload_n hx hb d_X_make_92 rfl (lv_at hl 0 rfl) ?_
              refine gf_X_64 hx hb hts hown hT hM hv_49 d_X_make_93 ?_
              have hl3 : τ.2 3 (μ.1 2 i_49 2).toNatClampNeg := lz_3 hM hv_49
              refine mx_callv (wc := [(q1, .inr (4, [.int 0, .int 0, .int 0, .null]))]) (wr := []) hX [0] [] rfl rfl (by decide) (by decide) (va_runI (As := [.int a1, .int a2, .int (μ.1 2 i_49 2), .ref (τ.1 3 (μ.1 2 i_49 2).toNatClampNeg)]) (rest := [.ref q1, .ref (τ.1 0 0)]) ⟨hx, hb, hml, hown, hts⟩ (c_T_init l G q1 H.size a1 a2 (μ.1 2 i_49 2) (τ.1 3 (μ.1 2 i_49 2).toNatClampNeg)) ⟨callB_of 4 hts (gG_self kw_code_T_init) rfl rfl rfl (hts _ kw_initialized_Thing) (hts _ kw_methodLink_46_T_init) (by decide +kernel) ⟨Nat.le_of_ble_eq_true rfl, Nat.le_of_ble_eq_true rfl⟩, rfl, hts _ kw_instanceMethod_T_init⟩ ⟨fun a U g mk z => by obtain ⟨z0, z1, zP, zT, zl, zD⟩ := z; exact ⟨z0, z1, zP, zT.same rfl, zl, zD⟩, fun U hU hW => ⟨rfl, by rw [hU], by rw [hU]; exact hX.2.1.sub (ws' := [(q1, .inr (4, [.int 0, .int 0, .int 0, .null]))]) [0] rfl, hT.warm hW, by rw [hU]; exact ⟨hX.1.1, hX.1.2.1⟩, hX.2.2.1.sub (ws' := [(q1, .inr (4, [.int 0, .int 0, .int 0, .null]))]) [0] (by decide) rfl⟩⟩ rfl rfl hl.1 rfl (lv_room (Nat.le_of_ble_eq_true rfl)) d_X_make_96 ⟨Nat.le_of_ble_eq_true rfl, Nat.le_of_ble_eq_true rfl⟩) (fun u t H1 locs1 ht hw hB hmx => ?_)
              obtain ⟨hP1, hD1⟩ := hB
              rw [ht] at hP1
              have hX := hmx _ hP1 hD1
              generalize H1 = H at hX ⊢
              generalize locs1 = locs at hX ⊢
              have hX : mx G τ μ [(q1, .inr (4, [.int a1, .int a2, .int (μ.1 2 i_49 2), .ref (τ.1 3 (μ.1 2 i_49 2).toNatClampNeg)]))] H locs := hX
              obtain ⟨hx2, hM⟩ := add_thing (k := k) hLv.1 hLv.2.1 (lv_free hLv (by rw [ek]; omega) 2 (Or.inl rfl)) hl3 hX
              have hnn : ∀ r i, (tAdd τ 2 k q1).2 r i → τ.2 r i ∨ (i = k ∧ (r = 2 ∨ r = 3 ∨ r = 4 ∨ r = 5 ∨ r = 6)) := fun r i h => h.elim Or.inl (fun z => Or.inr ⟨z.2, Or.inl z.1⟩)
              have hxx := hx2
              have hl2 : (tAdd τ 2 k q1).2 2 k := Or.inr ⟨rfl, rfl⟩
              have ha2 : (tAdd τ 2 k q1).1 2 k = q1 := tAdd_self _ _ _ _
              generalize tAdd τ 2 k q1 = τ2 at hM hnn hxx hl2 ha2
              have h20 := (hxx 0 0 (hM0.k.1 0 (by decide)))
              refine W.eq (g2 := F0 m 99 ls (.ref (τ2.1 2 k) :: .ref (τ2.1 0 0) :: [])) (by rw [ha2, h20.2]) ?_
              refine q_X_49 hx hb hml hown hts hT hM h20.1 (c_X_keep l G τ2 (nThing μ k a1 a2 (μ.1 2 i_49 2)) k hl2 hm ek) ⟨Nat.le_of_ble_eq_true rfl, Nat.le_of_ble_eq_true rfl⟩ ⟨Nat.le_of_ble_eq_true rfl, Nat.le_of_ble_eq_true rfl⟩ (lv_room (Nat.le_of_ble_eq_true rfl)) hl.1 d_X_make_99 (fun H locs hM => ?_)
              have e_f : f_X_make μ a1 a2 = f_X_keep (nThing μ (μ.1 0 0 1).toNatClampNeg a1 a2 (μ.1 2 i_49 2)) (μ.1 0 0 1).toNatClampNeg := by
                subst ek
                exact (if_neg c_4).trans ((if_pos c_13).trans ((if_neg c_19).trans ((oC_s ho_49).trans ((if_pos c_66).trans ((if_pos c_76).trans (rfl))))))
              rw [e_f, ← ek]
              refine W.widen (k := 5) (n := 28) (Nat.le_of_ble_eq_true rfl) (Nat.le_of_ble_eq_true rfl) ?_
              exact W.iret (v := (f_X_keep (nThing μ k a1 a2 (μ.1 2 i_49 2)) k).1) hx hb hr (fun t ht hW => ⟨rfl, τ2, hxx, lv_keep hLv hnn hm ek rfl rfl, hM.end ht⟩) hM.2.2.1 d_X_make_102
            · skip
              refine lv_iconst (v := (-1 : Int32)) hx hb d_X_make_79 (by decide) ?_
              have e_f : f_X_make μ a1 a2 = ((-1 : Int32), μ) := by
                exact (if_neg c_4).trans ((if_pos c_13).trans ((if_neg c_19).trans ((oC_s ho_49).trans ((if_pos c_66).trans ((if_neg c_76).trans rfl)))))
              rw [e_f]
              refine W.widen (k := 5) (n := 28) (Nat.zero_le _) (Nat.zero_le _) ?_
              exact W.iret (v := (-1 : Int32)) hx hb hr (fun t ht hW => ⟨rfl, τ, mExt.rf, hLv, hM.end ht⟩) hM.2.2.1 d_X_make_80
      · skip
        refine lv_aload_n hx hb d_X_make_22 rfl (lv_at hl 0 rfl) ?_
        have hm := made_in hI c_13
        have hkI := cl_int hm (by decide)
        obtain ⟨k, ek⟩ : ∃ z : Nat, z = (μ.1 0 0 1).toNatClampNeg := ⟨_, rfl⟩
        have hM0 := hM
        have hX := mx_0 hM
        refine mx_new (ci := 4) (fs := [.int 0, .int 0, .int 0, .null]) (C := R_T) (T := F_T) (N := 4) hx hb hts i_T ft_T ft_T_ok hown kw_classLink_9_Thing kw_instantiable_Thing_4 kw_initialized_Thing hT hX rfl (fun j hj => by rcases (show j = 0 ∨ j = 1 ∨ j = 2 ∨ j = 3 by omega) with rfl | rfl | rfl | rfl <;> rfl) (Nat.le_of_ble_eq_true rfl) (Nat.le_of_ble_eq_true rfl) d_X_make_23 (fun q1 H hX => ?_)
        have hX : mx G τ μ [(q1, .inr (4, [.int 0, .int 0, .int 0, .null]))] H locs := hX
        have hM := hX.1
        refine W.widen (k := 1) (n := 4) (Nat.le_of_ble_eq_true rfl) (Nat.le_of_ble_eq_true rfl) ?_
        refine lv_dup hx hb d_X_make_26 rfl ?_
        refine lv_iconst (v := (0 : Int32)) hx hb d_X_make_27 (by decide) ?_
        refine lv_iconst (v := (-1 : Int32)) hx hb d_X_make_28 (by decide) ?_
        refine lv_aload_n hx hb d_X_make_29 rfl (lv_at hl 0 rfl) ?_
        refine gf_X_15 hx hb hts hown hT hM (lz_0 hM) d_X_make_30 ?_
        refine mx_new (ci := 1) (fs := [.int 0, .int 0, .int 0, .null, .null, .null]) (C := R_B) (T := F_B) (N := 6) hx hb hts i_B ft_B ft_B_ok hown kw_classLink_43_Build kw_instantiable_Build_6 kw_initialized_Build hT hX rfl (fun j hj => by rcases (show j = 0 ∨ j = 1 ∨ j = 2 ∨ j = 3 ∨ j = 4 ∨ j = 5 by omega) with rfl | rfl | rfl | rfl | rfl | rfl <;> rfl) (Nat.le_of_ble_eq_true rfl) (Nat.le_of_ble_eq_true rfl) d_X_make_33 (fun q2 H hX => ?_)
        have hX : mx G τ μ [(q1, .inr (4, [.int 0, .int 0, .int 0, .null])), (q2, .inr (1, [.int 0, .int 0, .int 0, .null, .null, .null]))] H locs := hX
        refine W.widen (k := 2) (n := 10) (Nat.le_of_ble_eq_true rfl) (Nat.le_of_ble_eq_true rfl) ?_
        refine lv_dup hx hb d_X_make_36 rfl ?_
        refine mx_callv (wc := [(q2, .inr (1, [.int 0, .int 0, .int 0, .null, .null, .null]))]) (wr := [(q1, .inr (4, [.int 0, .int 0, .int 0, .null]))]) hX [1] [0] rfl rfl (by decide) (by decide) (va_runIN (As := []) (rest := [.ref q2, .int (μ.1 0 0 1), .int (-1 : Int32), .int (0 : Int32), .ref q1, .ref q1, .ref (τ.1 0 0)]) ⟨hx, hb, hml, hown, hts⟩ (c_B_init l G q2 H.size) ⟨va_cnB 0 hts (gG_self kw_code_B_init) rfl rfl rfl (hT.2.2.1 _ kn1) (hts _ kw_initialized_Build) (by decide +kernel) ⟨Nat.le_of_ble_eq_true rfl, Nat.le_of_ble_eq_true rfl⟩, rfl, hts _ kw_instanceMethod_B_init⟩ ⟨fun a U g mk z => by obtain ⟨z0, z1, zP, zT, zl, zD⟩ := z; exact ⟨z0, z1, zP, zT.same rfl, zl, zD⟩, fun U hU hW => ⟨rfl, by rw [hU], by rw [hU]; exact hX.2.1.sub (ws' := [(q2, .inr (1, [.int 0, .int 0, .int 0, .null, .null, .null]))]) [1] rfl, hT.warm hW, by rw [hU]; exact ⟨hX.1.1, hX.1.2.1⟩, hX.2.2.1.sub (ws' := [(q2, .inr (1, [.int 0, .int 0, .int 0, .null, .null, .null]))]) [1] (by decide) rfl⟩⟩ rfl rfl hl.1 rfl (lv_room (Nat.le_of_ble_eq_true rfl)) d_X_make_37 ⟨Nat.le_of_ble_eq_true rfl, Nat.le_of_ble_eq_true rfl⟩) (fun u t H1 locs1 ht hw hB hmx => ?_)
        obtain ⟨c1, c2, c3, hP1, hD1⟩ := hB
        rw [ht] at hP1
        have hX := hmx _ hP1 hD1
        generalize H1 = H at hX ⊢
        generalize locs1 = locs at hX ⊢
        have hX : mx G τ μ [(q1, .inr (4, [.int 0, .int 0, .int 0, .null])), (q2, .inr (1, [.int 0, .int 0, .int 0, .ref c1, .ref c2, .ref c3])), (c1, .inl (G.2.1 0, 6, .inl (fun _ => 0))), (c2, .inl (G.2.1 0, 6, .inl (fun _ => 0))), (c3, .inl (G.2.1 1, 6, .inr (.inl (fun _ => 0))))] H locs := hX
        refine W.widen (k := 5) (n := 28) (Nat.le_of_ble_eq_true rfl) (Nat.le_of_ble_eq_true rfl) ?_
        refine mx_callv (wc := [(q1, .inr (4, [.int 0, .int 0, .int 0, .null]))]) (wr := [(q2, .inr (1, [.int 0, .int 0, .int 0, .ref c1, .ref c2, .ref c3])), (c1, .inl (G.2.1 0, 6, .inl (fun _ => 0))), (c2, .inl (G.2.1 0, 6, .inl (fun _ => 0))), (c3, .inl (G.2.1 1, 6, .inr (.inl (fun _ => 0))))]) hX [0] [1, 2, 3, 4] rfl rfl (by decide) (by decide) (va_runI (As := [.int (0 : Int32), .int (-1 : Int32), .int (μ.1 0 0 1), .ref q2]) (rest := [.ref q1, .ref (τ.1 0 0)]) ⟨hx, hb, hml, hown, hts⟩ (c_T_init l G q1 H.size 0 (-1) (μ.1 0 0 1) q2) ⟨callB_of 4 hts (gG_self kw_code_T_init) rfl rfl rfl (hts _ kw_initialized_Thing) (hts _ kw_methodLink_46_T_init) (by decide +kernel) ⟨Nat.le_of_ble_eq_true rfl, Nat.le_of_ble_eq_true rfl⟩, rfl, hts _ kw_instanceMethod_T_init⟩ ⟨fun a U g mk z => by obtain ⟨z0, z1, zP, zT, zl, zD⟩ := z; exact ⟨z0, z1, zP, zT.same rfl, zl, zD⟩, fun U hU hW => ⟨rfl, by rw [hU], by rw [hU]; exact hX.2.1.sub (ws' := [(q1, .inr (4, [.int 0, .int 0, .int 0, .null]))]) [0] rfl, hT.warm hW, by rw [hU]; exact ⟨hX.1.1, hX.1.2.1⟩, hX.2.2.1.sub (ws' := [(q1, .inr (4, [.int 0, .int 0, .int 0, .null]))]) [0] (by decide) rfl⟩⟩ rfl rfl hl.1 rfl (lv_room (Nat.le_of_ble_eq_true rfl)) d_X_make_40 ⟨Nat.le_of_ble_eq_true rfl, Nat.le_of_ble_eq_true rfl⟩) (fun u t H1 locs1 ht hw hB hmx => ?_)
        obtain ⟨hP1, hD1⟩ := hB
        rw [ht] at hP1
        have hX := hmx _ hP1 hD1
        generalize H1 = H at hX ⊢
        generalize locs1 = locs at hX ⊢
        have hX : mx G τ μ [(q2, .inr (1, [.int 0, .int 0, .int 0, .ref c1, .ref c2, .ref c3])), (c1, .inl (G.2.1 0, 6, .inl (fun _ => 0))), (c2, .inl (G.2.1 0, 6, .inl (fun _ => 0))), (c3, .inl (G.2.1 1, 6, .inr (.inl (fun _ => 0)))), (q1, .inr (4, [.int 0, .int (-1), .int (μ.1 0 0 1), .ref q2]))] H locs := hX
        obtain ⟨τ1, hx1, hn1, hl3, ha3, hX⟩ := add_build hLv (k := k) (by rw [ek]; omega) hX
        have hX : mx G τ1 (nBuild μ k) [(q1, .inr (4, [.int 0, .int (-1), .int (μ.1 0 0 1), .ref (τ1.1 3 (μ.1 0 0 1).toNatClampNeg)]))] H locs := by rw [← ek, ha3]; exact hX
        have hn2 : ¬ τ1.2 2 k := fun h => (hn1 2 k h).elim (fun z => lv_free hLv (by rw [ek]; omega) 2 (Or.inl rfl) z) (fun z => absurd z.2 (by decide))
        obtain ⟨hx2, hM⟩ := add_thing (k := k) (fun i h => (hn1 1 i h).elim (hLv.1 i) (fun z => absurd z.2 (by decide))) (fun i h => (hn1 10 i h).elim (hLv.2.1 i) (fun z => absurd z.2 (by decide))) hn2 (by rw [← ek]; exact hl3) hX
        have hnn : ∀ r i, (tAdd τ1 2 k q1).2 r i → τ.2 r i ∨ (i = k ∧ (r = 2 ∨ r = 3 ∨ r = 4 ∨ r = 5 ∨ r = 6)) := fun r i h => h.elim (fun h => (hn1 r i h).elim Or.inl (fun z => Or.inr ⟨z.1, Or.inr z.2⟩)) (fun z => Or.inr ⟨z.2, Or.inl z.1⟩)
        have hxx := hx1.tr hx2
        have hl2 : (tAdd τ1 2 k q1).2 2 k := Or.inr ⟨rfl, rfl⟩
        have ha2 : (tAdd τ1 2 k q1).1 2 k = q1 := tAdd_self _ _ _ _
        generalize tAdd τ1 2 k q1 = τ2 at hM hnn hxx hl2 ha2
        have h20 := (hxx 0 0 (hM0.k.1 0 (by decide)))
        refine W.eq (g2 := F0 m 43 ls (.ref (τ2.1 2 k) :: .ref (τ2.1 0 0) :: [])) (by rw [ha2, h20.2]) ?_
        refine q_X_49 hx hb hml hown hts hT hM h20.1 (c_X_keep l G τ2 (nThing (nBuild μ k) k 0 (-1) (μ.1 0 0 1)) k hl2 hm ek) ⟨Nat.le_of_ble_eq_true rfl, Nat.le_of_ble_eq_true rfl⟩ ⟨Nat.le_of_ble_eq_true rfl, Nat.le_of_ble_eq_true rfl⟩ (lv_room (Nat.le_of_ble_eq_true rfl)) hl.1 d_X_make_43 (fun H locs hM => ?_)
        have e_f : f_X_make μ a1 a2 = f_X_keep (nThing (nBuild μ (μ.1 0 0 1).toNatClampNeg) (μ.1 0 0 1).toNatClampNeg 0 (-1) (μ.1 0 0 1)) (μ.1 0 0 1).toNatClampNeg := by
          subst ek
          exact (if_neg c_4).trans ((if_pos c_13).trans ((if_pos c_19).trans (rfl)))
        rw [e_f, ← ek]
        refine W.widen (k := 5) (n := 28) (Nat.le_of_ble_eq_true rfl) (Nat.le_of_ble_eq_true rfl) ?_
        exact W.iret (v := (f_X_keep (nThing (nBuild μ k) k 0 (-1) (μ.1 0 0 1)) k).1) hx hb hr (fun t ht hW => ⟨rfl, τ2, hxx, lv_keep hLv hnn hm ek rfl rfl, hM.end ht⟩) hM.2.2.1 d_X_make_46
    · skip
      refine lv_iconst (v := (-1 : Int32)) hx hb d_X_make_16 (by decide) ?_
      have e_f : f_X_make μ a1 a2 = ((-1 : Int32), μ) := by
        exact (if_neg c_4).trans ((if_neg c_13).trans rfl)
      rw [e_f]
      refine W.widen (k := 5) (n := 28) (Nat.zero_le _) (Nat.zero_le _) ?_
      exact W.iret (v := (-1 : Int32)) hx hb hr (fun t ht hW => ⟨rfl, τ, mExt.rf, hLv, hM.end ht⟩) hM.2.2.1 d_X_make_17
def f_X_define (μ : mMem) (a1 : Int32) (a2 : Int32) (a3 : Int32) (a4 : Int64) (a5 : Int64) : Int32 × mMem := 
  if (f_X_isCall μ a1) = (0 : Int32) then ((0 : Int32), μ)
  else 
    if (f_X_isKind μ a2) = (0 : Int32) then ((0 : Int32), μ)
    else 
      if a3 = (-1 : Int32) then 
        if (lg_cmp a4 a5) ≤ (0 : Int32) then 
          if μ.1 10 0 a1.toNatClampNeg = 0 then ((1 : Int32), f_P_begin (sI (nPart μ a1.toNatClampNeg) 10 0 a1.toNatClampNeg 1) a1.toNatClampNeg a2 a3 a4 a5)
          else 
            let m_70 := (f_P_begin μ a1.toNatClampNeg a2 a3 a4 a5)
            ((1 : Int32), m_70)
        else ((0 : Int32), μ)
      else 
        if (f_X_isSort μ a3) = (0 : Int32) then ((0 : Int32), μ)
        else 
          if (lg_cmp a4 a5) ≤ (0 : Int32) then 
            if μ.1 10 0 a1.toNatClampNeg = 0 then ((1 : Int32), f_P_begin (sI (nPart μ a1.toNatClampNeg) 10 0 a1.toNatClampNeg 1) a1.toNatClampNeg a2 a3 a4 a5)
            else 
              let m_70 := (f_P_begin μ a1.toNatClampNeg a2 a3 a4 a5)
              ((1 : Int32), m_70)
          else ((0 : Int32), μ)
def r_X_define : Room := { frames := 2, cells := 2, slots := 14, locals := 32 }
def w_X_define : List Cond := .code y_X_define b_X_define 8 (some .boolean) :: gG
set_option maxHeartbeats 4000000 in
set_option maxRecDepth 100000 in
theorem c_X_define (l : Launch) (G : mG) (τ : mTau) (μ : mMem) (a1 : Int32) (a2 : Int32) (a3 : Int32) (a4 : Int64) (a5 : Int64) (hLv : mLv τ μ) : Met l y_X_define w_X_define r_X_define (mPc G τ μ [.ref (τ.1 0 0), .int a1, .int a2, .int a3, .long a4, .long a5]) (mQx G τ (some (.int (f_X_define μ a1 a2 a3 a4 a5).1)) (f_X_define μ a1 a2 a3 a4 a5).2) 2 14 (fun q => G.2.2.1 ≤ q) := by
  refine Met.ofW (cc := b_X_define) (maxL := 8) (ret := (some .boolean)) (by decide) rfl ?_
  intro p e s m args below meth c s₁ B hml hv
  obtain ⟨rfl, hT, hM⟩ := hv
  have hx := B.exec
  have hb := B.bytes
  have hr := B.returns
  have hts : ∀ w ∈ gG, w.before _ s = true := fun w h => atoms_spec (ws := w_X_define) B.pre w (List.mem_cons_of_mem _ h)
  have hown : s.vm.findClass R_X = some m.cls := findClass_of_methodNamed B.named
  have hlocks := B.notSynchronized
  have hl := lv_entry ([.ref (τ.1 0 0), .int a1, .int a2, .int a3, .long a4, .long a5]) (n := 8) (Nat.le_of_ble_eq_true rfl)
  rw [lg_entry_eq]
  skip
  generalize (lg_sl ([.ref (τ.1 0 0), .int a1, .int a2, .int a3, .long a4, .long a5]) ++ List.replicate (8 - (lg_sl ([.ref (τ.1 0 0), .int a1, .int a2, .int a3, .long a4, .long a5])).length) Slot.unset).toArray = ls at hl ⊢
  have hl : lv_has ls 8 [(0, .ref (τ.1 0 0)), (1, .int a1), (2, .int a2), (3, .int a3), (4, .long a4), (6, .long a5)] := hl
  refine lv_iload_n hx hb d_X_define_0 rfl (lv_at hl 1 rfl) ?_
  refine q_X_103 hx hb hml hown hts hT hM (c_X_isCall l G τ μ a1) ⟨Nat.le_of_ble_eq_true rfl, Nat.le_of_ble_eq_true rfl⟩ ⟨Nat.zero_le _, Nat.zero_le _⟩ (lv_room (Nat.le_of_ble_eq_true rfl)) hl.1 d_X_define_1 (fun H locs hM => ?_)
  refine lv_if_eq (tgt := 34) hx hb d_X_define_4 (by decide) (fun c_4 => ?_) (fun c_4 => ?_)
  · skip
    refine lv_iconst (v := (0 : Int32)) hx hb d_X_define_34 (by decide) ?_
    have e_f : f_X_define μ a1 a2 a3 a4 a5 = ((0 : Int32), μ) := by
      exact (if_pos c_4).trans rfl
    rw [e_f]
    refine W.widen (k := 2) (n := 14) (Nat.zero_le _) (Nat.zero_le _) ?_
    exact W.zret (v := (0 : Int32)) hx hb hr rfl (fun t ht hW => ⟨rfl, τ, mExt.rf, hLv, hM.end ht⟩) hM.2.2.1 d_X_define_35
  · skip
    have hca := call_in c_4
    refine lv_iload_n hx hb d_X_define_7 rfl (lv_at hl 2 rfl) ?_
    refine q_X_39 hx hb hml hown hts hT hM (c_X_isKind l G τ μ a2) ⟨Nat.le_of_ble_eq_true rfl, Nat.le_of_ble_eq_true rfl⟩ ⟨Nat.zero_le _, Nat.zero_le _⟩ (lv_room (Nat.le_of_ble_eq_true rfl)) hl.1 d_X_define_8 (fun H locs hM => ?_)
    refine lv_if_eq (tgt := 34) hx hb d_X_define_11 (by decide) (fun c_11 => ?_) (fun c_11 => ?_)
    · skip
      refine lv_iconst (v := (0 : Int32)) hx hb d_X_define_34 (by decide) ?_
      have e_f : f_X_define μ a1 a2 a3 a4 a5 = ((0 : Int32), μ) := by
        exact (if_neg c_4).trans ((if_pos c_11).trans rfl)
      rw [e_f]
      refine W.widen (k := 2) (n := 14) (Nat.zero_le _) (Nat.zero_le _) ?_
      exact W.zret (v := (0 : Int32)) hx hb hr rfl (fun t ht hW => ⟨rfl, τ, mExt.rf, hLv, hM.end ht⟩) hM.2.2.1 d_X_define_35
    · skip
      refine lv_iload_n hx hb d_X_define_14 rfl (lv_at hl 3 rfl) ?_
      refine lv_iconst (v := (-1 : Int32)) hx hb d_X_define_15 (by decide) ?_
      refine lv_icmp_eq (tgt := 26) hx hb d_X_define_16 (by decide) (fun c_16 => ?_) (fun c_16 => ?_)
      · skip
        refine lv_lload hx hb d_X_define_26 (lv_at hl 4 rfl) ?_
        refine lv_lload hx hb d_X_define_28 (lv_at hl 5 rfl) ?_
        refine W.lcmp hx hb d_X_define_30 ?_
        refine lv_if_le (tgt := 36) hx hb d_X_define_31 (by decide) (fun c_31 => ?_) (fun c_31 => ?_)
        · skip
          refine lv_aload_n hx hb d_X_define_36 rfl (lv_at hl 0 rfl) ?_
          refine gf_X_28 hx hb hts hown hT hM (lz_0 hM) d_X_define_37 ?_
          refine lv_iload_n hx hb d_X_define_40 rfl (lv_at hl 1 rfl) ?_
          refine al_10 hx hb hT hM (lz_10 hM) (hca) d_X_define_41 (fun c_41 => ?_) (fun c_41 hv_41 => ?_)
          · skip
            refine lv_ifnonnullN hx hb d_X_define_42 ?_
            refine lv_aload_n hx hb d_X_define_45 rfl (lv_at hl 0 rfl) ?_
            refine gf_X_28 hx hb hts hown hT hM (lz_0 hM) d_X_define_46 ?_
            refine lv_iload_n hx hb d_X_define_49 rfl (lv_at hl 1 rfl) ?_
            have hM0 := hM
            have hX := mx_0 hM
            refine mx_new (ci := 3) (fs := [.int 0, .int 0, .long 0, .long 0, .null, .int 0, .int 0, .int 0, .int 0]) (C := R_P) (T := F_P) (N := 9) hx hb hts i_P ft_P ft_P_ok hown kw_classLink_26_Part kw_instantiable_Part_9 kw_initialized_Part hT hX rfl (fun j hj => by rcases (show j = 0 ∨ j = 1 ∨ j = 2 ∨ j = 3 ∨ j = 4 ∨ j = 5 ∨ j = 6 ∨ j = 7 ∨ j = 8 by omega) with rfl | rfl | rfl | rfl | rfl | rfl | rfl | rfl | rfl <;> rfl) (Nat.le_of_ble_eq_true rfl) (Nat.le_of_ble_eq_true rfl) d_X_define_50 (fun q1 H hX => ?_)
            have hX : mx G τ μ [(q1, .inr (3, [.int 0, .int 0, .long 0, .long 0, .null, .int 0, .int 0, .int 0, .int 0]))] H locs := hX
            refine W.widen (k := 1) (n := 9) (Nat.le_of_ble_eq_true rfl) (Nat.le_of_ble_eq_true rfl) ?_
            refine lv_dup hx hb d_X_define_53 rfl ?_
            refine mx_callv (wc := [(q1, .inr (3, [.int 0, .int 0, .long 0, .long 0, .null, .int 0, .int 0, .int 0, .int 0]))]) (wr := []) hX [0] [] rfl rfl (by decide) (by decide) (va_runIN (As := []) (rest := [.ref q1, .int a1, .ref (τ.1 10 0)]) ⟨hx, hb, hml, hown, hts⟩ (c_P_init l G q1 H.size) ⟨va_cnB 0 hts (gG_self kw_code_P_init) rfl rfl rfl (hT.2.2.1 _ kn2) (hts _ kw_initialized_Part) (by decide +kernel) ⟨Nat.le_of_ble_eq_true rfl, Nat.le_of_ble_eq_true rfl⟩, rfl, hts _ kw_instanceMethod_P_init⟩ ⟨fun a U g mk z => by obtain ⟨z0, z1, zP, zT, zl, zD⟩ := z; exact ⟨z0, z1, zP, zT.same rfl, zl, zD⟩, fun U hU hW => ⟨rfl, by rw [hU], by rw [hU]; exact hX.2.1.sub (ws' := [(q1, .inr (3, [.int 0, .int 0, .long 0, .long 0, .null, .int 0, .int 0, .int 0, .int 0]))]) [0] rfl, hT.warm hW, by rw [hU]; exact ⟨hX.1.1, hX.1.2.1⟩, hX.2.2.1.sub (ws' := [(q1, .inr (3, [.int 0, .int 0, .long 0, .long 0, .null, .int 0, .int 0, .int 0, .int 0]))]) [0] (by decide) rfl⟩⟩ rfl rfl hl.1 rfl (lv_room (Nat.le_of_ble_eq_true rfl)) d_X_define_54 ⟨Nat.le_of_ble_eq_true rfl, Nat.le_of_ble_eq_true rfl⟩) (fun u t H1 locs1 ht hw hB hmx => ?_)
            obtain ⟨c1, hP1, hD1⟩ := hB
            rw [ht] at hP1
            have hX := hmx _ hP1 hD1
            generalize H1 = H at hX ⊢
            generalize locs1 = locs at hX ⊢
            have hX : mx G τ μ [(q1, .inr (3, [.int 0, .int 0, .long 0, .long 0, .ref c1, .int 0, .int 0, .int 0, .int 0])), (c1, .inl (G.2.1 1, 5, .inr (.inl (fun _ => 0))))] H locs := hX
            refine W.widen (k := 2) (n := 14) (Nat.le_of_ble_eq_true rfl) (Nat.le_of_ble_eq_true rfl) ?_
            obtain ⟨τ1, hx1, hn1, hl11, ha11, hM⟩ := add_part hLv (k := a1.toNatClampNeg) c_41 hX
            have h20 := hx1 0 0 (hM0.k.1 0 (by decide))
            have h10 := hx1 10 0 (hM0.k.1 10 (by decide))
            refine W.eq (g2 := F0 m 57 ls (.ref (τ1.1 11 a1.toNatClampNeg) :: .int a1 :: .ref (τ1.1 10 0) :: [])) (by rw [ha11, h10.2]) ?_
            refine aw_10 hx hb hT hM (lz_10 hM) rfl hl11 hca d_X_define_57 (fun m_57 H locs e_57 hM => ?_)
            refine lv_aload_n hx hb d_X_define_58 rfl (lv_at hl 0 rfl) ?_
            refine W.eq (g2 := F0 m 59 ls (.ref (τ1.1 0 0) :: [])) (by rw [h20.2]) ?_
            refine gf_X_28 hx hb hts hown hT hM (lz_0 hM) d_X_define_59 ?_
            refine lv_iload_n hx hb d_X_define_62 rfl (lv_at hl 1 rfl) ?_
            refine al_10 hx hb hT hM (lz_10 hM) hca d_X_define_63 (fun c_63 => absurd c_63 (by rw [e_57, sI_1, if_pos ⟨rfl, rfl, rfl⟩]; decide)) (fun c_63 hv_63 => ?_)
            refine lv_iload_n hx hb d_X_define_64 rfl (lv_at hl 2 rfl) ?_
            refine lv_iload_n hx hb d_X_define_65 rfl (lv_at hl 3 rfl) ?_
            refine lv_lload hx hb d_X_define_66 (lv_at hl 4 rfl) ?_
            refine lv_lload hx hb d_X_define_68 (lv_at hl 5 rfl) ?_
            refine q_X_107 hx hb hml hown hts hT hM hv_63 (c_P_begin l G τ1 m_57 a1.toNatClampNeg hv_63 a2 a3 a4 a5) ⟨Nat.le_of_ble_eq_true rfl, Nat.le_of_ble_eq_true rfl⟩ ⟨Nat.le_of_ble_eq_true rfl, Nat.le_of_ble_eq_true rfl⟩ (lv_room (Nat.le_of_ble_eq_true rfl)) hl.1 d_X_define_70 (fun H locs hM => ?_)
            refine lv_iconst (v := (1 : Int32)) hx hb d_X_define_73 (by decide) ?_
            have e_f : f_X_define μ a1 a2 a3 a4 a5 = (1, f_P_begin m_57 a1.toNatClampNeg a2 a3 a4 a5) := by
              subst e_57
              exact (if_neg c_4).trans ((if_neg c_11).trans ((if_pos c_16).trans ((if_pos c_31).trans ((if_pos c_41).trans (rfl)))))
            rw [e_f]
            exact W.zret (v := (1 : Int32)) hx hb hr rfl (fun t ht hW => ⟨rfl, τ1, hx1, by rw [e_57]; exact lv_begin (lv_part hLv hn1), hM.end ht⟩) hM.2.2.1 d_X_define_74
          · skip
            refine lv_ifnonnull (tgt := 58) hx hb d_X_define_42 (by decide) ?_
            refine lv_aload_n hx hb d_X_define_58 rfl (lv_at hl 0 rfl) ?_
            refine gf_X_28 hx hb hts hown hT hM (lz_0 hM) d_X_define_59 ?_
            refine lv_iload_n hx hb d_X_define_62 rfl (lv_at hl 1 rfl) ?_
            refine al_10 hx hb hT hM (lz_10 hM) (hca) d_X_define_63 (fun c_63 => ?_) (fun c_63 hv_63 => ?_)
            · exact absurd c_63 c_41
            · skip
              refine lv_iload_n hx hb d_X_define_64 rfl (lv_at hl 2 rfl) ?_
              refine lv_iload_n hx hb d_X_define_65 rfl (lv_at hl 3 rfl) ?_
              refine lv_lload hx hb d_X_define_66 (lv_at hl 4 rfl) ?_
              refine lv_lload hx hb d_X_define_68 (lv_at hl 5 rfl) ?_
              refine q_X_107 hx hb hml hown hts hT hM hv_63 (c_P_begin l G τ μ a1.toNatClampNeg hv_63 a2 a3 a4 a5) ⟨Nat.le_of_ble_eq_true rfl, Nat.le_of_ble_eq_true rfl⟩ ⟨Nat.zero_le _, Nat.zero_le _⟩ (lv_room (Nat.le_of_ble_eq_true rfl)) hl.1 d_X_define_70 (fun H locs hM => ?_)
              obtain ⟨m_70, e_70⟩ : ∃ z : mMem, z = (f_P_begin μ a1.toNatClampNeg a2 a3 a4 a5) := ⟨_, rfl⟩
              rw [← e_70] at hM
              refine lv_iconst (v := (1 : Int32)) hx hb d_X_define_73 (by decide) ?_
              have e_f : f_X_define μ a1 a2 a3 a4 a5 = ((1 : Int32), m_70) := by
                subst e_70
                exact (if_neg c_4).trans ((if_neg c_11).trans ((if_pos c_16).trans ((if_pos c_31).trans ((if_neg c_41).trans rfl))))
              rw [e_f]
              refine W.widen (k := 2) (n := 14) (Nat.zero_le _) (Nat.zero_le _) ?_
              exact W.zret (v := (1 : Int32)) hx hb hr rfl (fun t ht hW => ⟨rfl, τ, mExt.rf, by rw [e_70]; exact lv_begin hLv, hM.end ht⟩) hM.2.2.1 d_X_define_74
        · skip
          refine lv_iconst (v := (0 : Int32)) hx hb d_X_define_34 (by decide) ?_
          have e_f : f_X_define μ a1 a2 a3 a4 a5 = ((0 : Int32), μ) := by
            exact (if_neg c_4).trans ((if_neg c_11).trans ((if_pos c_16).trans ((if_neg c_31).trans rfl)))
          rw [e_f]
          refine W.widen (k := 2) (n := 14) (Nat.zero_le _) (Nat.zero_le _) ?_
          exact W.zret (v := (0 : Int32)) hx hb hr rfl (fun t ht hW => ⟨rfl, τ, mExt.rf, hLv, hM.end ht⟩) hM.2.2.1 d_X_define_35
      · skip
        refine lv_iload_n hx hb d_X_define_19 rfl (lv_at hl 3 rfl) ?_
        refine q_X_86 hx hb hml hown hts hT hM (c_X_isSort l G τ μ a3) ⟨Nat.le_of_ble_eq_true rfl, Nat.le_of_ble_eq_true rfl⟩ ⟨Nat.zero_le _, Nat.zero_le _⟩ (lv_room (Nat.le_of_ble_eq_true rfl)) hl.1 d_X_define_20 (fun H locs hM => ?_)
        refine lv_if_eq (tgt := 34) hx hb d_X_define_23 (by decide) (fun c_23 => ?_) (fun c_23 => ?_)
        · skip
          refine lv_iconst (v := (0 : Int32)) hx hb d_X_define_34 (by decide) ?_
          have e_f : f_X_define μ a1 a2 a3 a4 a5 = ((0 : Int32), μ) := by
            exact (if_neg c_4).trans ((if_neg c_11).trans ((if_neg c_16).trans ((if_pos c_23).trans rfl)))
          rw [e_f]
          refine W.widen (k := 2) (n := 14) (Nat.zero_le _) (Nat.zero_le _) ?_
          exact W.zret (v := (0 : Int32)) hx hb hr rfl (fun t ht hW => ⟨rfl, τ, mExt.rf, hLv, hM.end ht⟩) hM.2.2.1 d_X_define_35
        · skip
          refine lv_lload hx hb d_X_define_26 (lv_at hl 4 rfl) ?_
          refine lv_lload hx hb d_X_define_28 (lv_at hl 5 rfl) ?_
          refine W.lcmp hx hb d_X_define_30 ?_
          refine lv_if_le (tgt := 36) hx hb d_X_define_31 (by decide) (fun c_31 => ?_) (fun c_31 => ?_)
          · skip
            refine lv_aload_n hx hb d_X_define_36 rfl (lv_at hl 0 rfl) ?_
            refine gf_X_28 hx hb hts hown hT hM (lz_0 hM) d_X_define_37 ?_
            refine lv_iload_n hx hb d_X_define_40 rfl (lv_at hl 1 rfl) ?_
            refine al_10 hx hb hT hM (lz_10 hM) (hca) d_X_define_41 (fun c_41 => ?_) (fun c_41 hv_41 => ?_)
            · skip
              refine lv_ifnonnullN hx hb d_X_define_42 ?_
              refine lv_aload_n hx hb d_X_define_45 rfl (lv_at hl 0 rfl) ?_
              refine gf_X_28 hx hb hts hown hT hM (lz_0 hM) d_X_define_46 ?_
              refine lv_iload_n hx hb d_X_define_49 rfl (lv_at hl 1 rfl) ?_
              have hM0 := hM
              have hX := mx_0 hM
              refine mx_new (ci := 3) (fs := [.int 0, .int 0, .long 0, .long 0, .null, .int 0, .int 0, .int 0, .int 0]) (C := R_P) (T := F_P) (N := 9) hx hb hts i_P ft_P ft_P_ok hown kw_classLink_26_Part kw_instantiable_Part_9 kw_initialized_Part hT hX rfl (fun j hj => by rcases (show j = 0 ∨ j = 1 ∨ j = 2 ∨ j = 3 ∨ j = 4 ∨ j = 5 ∨ j = 6 ∨ j = 7 ∨ j = 8 by omega) with rfl | rfl | rfl | rfl | rfl | rfl | rfl | rfl | rfl <;> rfl) (Nat.le_of_ble_eq_true rfl) (Nat.le_of_ble_eq_true rfl) d_X_define_50 (fun q1 H hX => ?_)
              have hX : mx G τ μ [(q1, .inr (3, [.int 0, .int 0, .long 0, .long 0, .null, .int 0, .int 0, .int 0, .int 0]))] H locs := hX
              refine W.widen (k := 1) (n := 9) (Nat.le_of_ble_eq_true rfl) (Nat.le_of_ble_eq_true rfl) ?_
              refine lv_dup hx hb d_X_define_53 rfl ?_
              refine mx_callv (wc := [(q1, .inr (3, [.int 0, .int 0, .long 0, .long 0, .null, .int 0, .int 0, .int 0, .int 0]))]) (wr := []) hX [0] [] rfl rfl (by decide) (by decide) (va_runIN (As := []) (rest := [.ref q1, .int a1, .ref (τ.1 10 0)]) ⟨hx, hb, hml, hown, hts⟩ (c_P_init l G q1 H.size) ⟨va_cnB 0 hts (gG_self kw_code_P_init) rfl rfl rfl (hT.2.2.1 _ kn2) (hts _ kw_initialized_Part) (by decide +kernel) ⟨Nat.le_of_ble_eq_true rfl, Nat.le_of_ble_eq_true rfl⟩, rfl, hts _ kw_instanceMethod_P_init⟩ ⟨fun a U g mk z => by obtain ⟨z0, z1, zP, zT, zl, zD⟩ := z; exact ⟨z0, z1, zP, zT.same rfl, zl, zD⟩, fun U hU hW => ⟨rfl, by rw [hU], by rw [hU]; exact hX.2.1.sub (ws' := [(q1, .inr (3, [.int 0, .int 0, .long 0, .long 0, .null, .int 0, .int 0, .int 0, .int 0]))]) [0] rfl, hT.warm hW, by rw [hU]; exact ⟨hX.1.1, hX.1.2.1⟩, hX.2.2.1.sub (ws' := [(q1, .inr (3, [.int 0, .int 0, .long 0, .long 0, .null, .int 0, .int 0, .int 0, .int 0]))]) [0] (by decide) rfl⟩⟩ rfl rfl hl.1 rfl (lv_room (Nat.le_of_ble_eq_true rfl)) d_X_define_54 ⟨Nat.le_of_ble_eq_true rfl, Nat.le_of_ble_eq_true rfl⟩) (fun u t H1 locs1 ht hw hB hmx => ?_)
              obtain ⟨c1, hP1, hD1⟩ := hB
              rw [ht] at hP1
              have hX := hmx _ hP1 hD1
              generalize H1 = H at hX ⊢
              generalize locs1 = locs at hX ⊢
              have hX : mx G τ μ [(q1, .inr (3, [.int 0, .int 0, .long 0, .long 0, .ref c1, .int 0, .int 0, .int 0, .int 0])), (c1, .inl (G.2.1 1, 5, .inr (.inl (fun _ => 0))))] H locs := hX
              refine W.widen (k := 2) (n := 14) (Nat.le_of_ble_eq_true rfl) (Nat.le_of_ble_eq_true rfl) ?_
              obtain ⟨τ1, hx1, hn1, hl11, ha11, hM⟩ := add_part hLv (k := a1.toNatClampNeg) c_41 hX
              have h20 := hx1 0 0 (hM0.k.1 0 (by decide))
              have h10 := hx1 10 0 (hM0.k.1 10 (by decide))
              refine W.eq (g2 := F0 m 57 ls (.ref (τ1.1 11 a1.toNatClampNeg) :: .int a1 :: .ref (τ1.1 10 0) :: [])) (by rw [ha11, h10.2]) ?_
              refine aw_10 hx hb hT hM (lz_10 hM) rfl hl11 hca d_X_define_57 (fun m_57 H locs e_57 hM => ?_)
              refine lv_aload_n hx hb d_X_define_58 rfl (lv_at hl 0 rfl) ?_
              refine W.eq (g2 := F0 m 59 ls (.ref (τ1.1 0 0) :: [])) (by rw [h20.2]) ?_
              refine gf_X_28 hx hb hts hown hT hM (lz_0 hM) d_X_define_59 ?_
              refine lv_iload_n hx hb d_X_define_62 rfl (lv_at hl 1 rfl) ?_
              refine al_10 hx hb hT hM (lz_10 hM) hca d_X_define_63 (fun c_63 => absurd c_63 (by rw [e_57, sI_1, if_pos ⟨rfl, rfl, rfl⟩]; decide)) (fun c_63 hv_63 => ?_)
              refine lv_iload_n hx hb d_X_define_64 rfl (lv_at hl 2 rfl) ?_
              refine lv_iload_n hx hb d_X_define_65 rfl (lv_at hl 3 rfl) ?_
              refine lv_lload hx hb d_X_define_66 (lv_at hl 4 rfl) ?_
              refine lv_lload hx hb d_X_define_68 (lv_at hl 5 rfl) ?_
              refine q_X_107 hx hb hml hown hts hT hM hv_63 (c_P_begin l G τ1 m_57 a1.toNatClampNeg hv_63 a2 a3 a4 a5) ⟨Nat.le_of_ble_eq_true rfl, Nat.le_of_ble_eq_true rfl⟩ ⟨Nat.le_of_ble_eq_true rfl, Nat.le_of_ble_eq_true rfl⟩ (lv_room (Nat.le_of_ble_eq_true rfl)) hl.1 d_X_define_70 (fun H locs hM => ?_)
              refine lv_iconst (v := (1 : Int32)) hx hb d_X_define_73 (by decide) ?_
              have e_f : f_X_define μ a1 a2 a3 a4 a5 = (1, f_P_begin m_57 a1.toNatClampNeg a2 a3 a4 a5) := by
                subst e_57
                exact (if_neg c_4).trans ((if_neg c_11).trans ((if_neg c_16).trans ((if_neg c_23).trans ((if_pos c_31).trans ((if_pos c_41).trans (rfl))))))
              rw [e_f]
              exact W.zret (v := (1 : Int32)) hx hb hr rfl (fun t ht hW => ⟨rfl, τ1, hx1, by rw [e_57]; exact lv_begin (lv_part hLv hn1), hM.end ht⟩) hM.2.2.1 d_X_define_74
            · skip
              refine lv_ifnonnull (tgt := 58) hx hb d_X_define_42 (by decide) ?_
              refine lv_aload_n hx hb d_X_define_58 rfl (lv_at hl 0 rfl) ?_
              refine gf_X_28 hx hb hts hown hT hM (lz_0 hM) d_X_define_59 ?_
              refine lv_iload_n hx hb d_X_define_62 rfl (lv_at hl 1 rfl) ?_
              refine al_10 hx hb hT hM (lz_10 hM) (hca) d_X_define_63 (fun c_63 => ?_) (fun c_63 hv_63 => ?_)
              · exact absurd c_63 c_41
              · skip
                refine lv_iload_n hx hb d_X_define_64 rfl (lv_at hl 2 rfl) ?_
                refine lv_iload_n hx hb d_X_define_65 rfl (lv_at hl 3 rfl) ?_
                refine lv_lload hx hb d_X_define_66 (lv_at hl 4 rfl) ?_
                refine lv_lload hx hb d_X_define_68 (lv_at hl 5 rfl) ?_
                refine q_X_107 hx hb hml hown hts hT hM hv_63 (c_P_begin l G τ μ a1.toNatClampNeg hv_63 a2 a3 a4 a5) ⟨Nat.le_of_ble_eq_true rfl, Nat.le_of_ble_eq_true rfl⟩ ⟨Nat.zero_le _, Nat.zero_le _⟩ (lv_room (Nat.le_of_ble_eq_true rfl)) hl.1 d_X_define_70 (fun H locs hM => ?_)
                obtain ⟨m_70, e_70⟩ : ∃ z : mMem, z = (f_P_begin μ a1.toNatClampNeg a2 a3 a4 a5) := ⟨_, rfl⟩
                rw [← e_70] at hM
                refine lv_iconst (v := (1 : Int32)) hx hb d_X_define_73 (by decide) ?_
                have e_f : f_X_define μ a1 a2 a3 a4 a5 = ((1 : Int32), m_70) := by
                  subst e_70
                  exact (if_neg c_4).trans ((if_neg c_11).trans ((if_neg c_16).trans ((if_neg c_23).trans ((if_pos c_31).trans ((if_neg c_41).trans rfl)))))
                rw [e_f]
                refine W.widen (k := 2) (n := 14) (Nat.zero_le _) (Nat.zero_le _) ?_
                exact W.zret (v := (1 : Int32)) hx hb hr rfl (fun t ht hW => ⟨rfl, τ, mExt.rf, by rw [e_70]; exact lv_begin hLv, hM.end ht⟩) hM.2.2.1 d_X_define_74
          · skip
            refine lv_iconst (v := (0 : Int32)) hx hb d_X_define_34 (by decide) ?_
            have e_f : f_X_define μ a1 a2 a3 a4 a5 = ((0 : Int32), μ) := by
              exact (if_neg c_4).trans ((if_neg c_11).trans ((if_neg c_16).trans ((if_neg c_23).trans ((if_neg c_31).trans rfl))))
            rw [e_f]
            refine W.widen (k := 2) (n := 14) (Nat.zero_le _) (Nat.zero_le _) ?_
            exact W.zret (v := (0 : Int32)) hx hb hr rfl (fun t ht hW => ⟨rfl, τ, mExt.rf, hLv, hM.end ht⟩) hM.2.2.1 d_X_define_35
