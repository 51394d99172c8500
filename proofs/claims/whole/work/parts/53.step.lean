theorem RR_b {N : Nat} {a b b' : mMem} (h : RR N a b) (k : keeps k1 b b') : RR N a b' := by
  have e20 := (k 20 rfl).1
  have e22 := (k 22 rfl).1
  have e23 := (k 23 rfl).1
  have e24 := (k 24 rfl).1
  have e25 := (k 25 rfl).1
  have e26 := (k 26 rfl).1
  have e27 := (k 27 rfl).1
  have e28 := (k 28 rfl).1
  have e29 := (k 29 rfl).1
  have e30 := (k 30 rfl).2
  have e31 := (k 31 rfl).1
  have e32 := (k 32 rfl).1
  have e33 := (k 33 rfl).1
  have e34 := (k 34 rfl).1
  have e35 := (k 35 rfl).1
  have e36 := (k 36 rfl).1
  have e37 := (k 37 rfl).1
  have e38 := (k 38 rfl).1
  have e39 := (k 39 rfl).1
  have e40 := (k 40 rfl).2
  have e41 := (k 41 rfl).2
  have e42 := (k 42 rfl).2
  have e43 := (k 43 rfl).1
  have e44 := (k 44 rfl).1
  have e45 := (k 45 rfl).1
  have e46 := (k 46 rfl).1
  have e47 := (k 47 rfl).2
  unfold RR RT RB RC RP RO at h ⊢
  simp only [e20, e22, e23, e24, e25, e26, e27, e28, e29, e30, e31, e32, e33, e34, e35, e36, e37, e38, e39, e40, e41, e42, e43, e44, e45, e46, e47]
  exact h
theorem RR_a {N : Nat} {a a' b : mMem} (h : RR N a b) (k : keeps kM a a') : RR N a' b := by
  have e0 := (k 0 rfl).1
  have e1 := (k 1 rfl).1
  have e2 := (k 2 rfl).1
  have e3 := (k 3 rfl).1
  have e4 := (k 4 rfl).1
  have e5 := (k 5 rfl).1
  have e6 := (k 6 rfl).2
  have e8 := (k 8 rfl).1
  have e9 := (k 9 rfl).2
  have e10 := (k 10 rfl).1
  have e11 := (k 11 rfl).1
  have e11L := (k 11 rfl).2
  have e12 := (k 12 rfl).2
  have e13 := (k 13 rfl).1
  have e14 := (k 14 rfl).1
  have e15 := (k 15 rfl).1
  have e16 := (k 16 rfl).1
  have e17 := (k 17 rfl).2
  unfold RR RT RB RC RP RO RQ RZ at h ⊢
  simp only [e0, e1, e2, e3, e4, e5, e6, e8, e9, e10, e11, e11L, e12, e13, e14, e15, e16, e17]
  exact h
theorem k1_of {a b : mMem} (h : keeps k0 a b) : keeps k1 a b := fun r hr => h r (by
  unfold k1 at hr
  unfold k0
  rw [hr]
  simp)
theorem lv_k0 {τ : mTau} {a b : mMem} (h : keeps k0 a b) (hv : mLv τ a) : mLv τ b := lv_same hv (by rw [(h 0 rfl).1]) (h 10 rfl).1
theorem lv_kM {τ : mTau} {a b : mMem} (h : keeps kM a b) (hv : mLv τ a) : mLv τ b := lv_same hv (by rw [(h 0 rfl).1]) (h 10 rfl).1
theorem st_of {N N' : Nat} {μ μ1 μ2 : mMem} {A : Prop} (h : RR N μ μ) (hN : N + 128 ≤ 1000000) (kx : keeps k1 μ μ1) (km : keeps kM μ1 μ2) (z : RR N μ μ1 → A ∧ RR N' μ1 μ2) (hN' : N' ≤ N + 128) : iM μ1 ∧ (0 ≤ (μ1.1 46 0 0).toInt ∧ (μ1.1 46 0 0).toInt ≤ 1000000) ∧ A ∧ RR (N + 128) μ2 μ2 ∧ (∀ τ, mLv τ μ1 → mLv τ μ2) := by
  have h1 := RR_b h kx
  have hz := z h1
  exact ⟨iM_of h1, cnt_of h1 (by omega), hz.1, RR_mono (RR_a hz.2 km) hN', fun τ hv => lv_kM km hv⟩
