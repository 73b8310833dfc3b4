
def NB (b : Nat) (x : Int32) : Prop := ∃ v : Nat, v ≤ b ∧ x = nI v
def SV (x : Int32) : Prop := ∃ r t v : Nat, r < 6 ∧ t < 16 ∧ v < 10 ∧ x = nI (1000 * r + 10 * t + v)
def bnd (w : Nat) : Nat := [6, 5, 9, 65535, 9999, 65535, 9999].getD w 0
/-- a club of the class and a row of the reference, N gloves -/
def RC (c : gM) (d : Nat → Int32) (N : Nat) : Prop := N ≤ 8 ∧ c 8 0 = nI N ∧ d 0 = nI N ∧ c 8 1 = d 1 ∧ NB 99999 (d 1) ∧ c 8 2 = d 2 ∧ (∀ j, j < 6 → c 9 j = d (3 + j) ∧ SV (d (3 + j))) ∧ (∀ g, g < N → ∀ w, w < 7 → c g w = d (9 + 8 * w + g) ∧ NB (bnd w) (d (9 + 8 * w + g))) ∧ (∀ j, j < 10 → c 10 j = d (65 + j) - 1 ∧ NB N (d (65 + j)))
def RT (σ μ : gM) : Prop := ∃ T : Nat, T ≤ 120 ∧ σ 42 0 = nI T ∧ μ 0 1 = nI T ∧ ∀ j, j < T → σ 43 j = μ 6 j
def RS (σ μ : gM) : Prop := ∀ s, s < 4 → σ (47 + 2 * s) 0 = μ 7 s ∧ σ (47 + 2 * s) 1 = μ 8 s ∧ (μ 7 s = 0 ∨ μ 7 s = 8 ∨ μ 7 s = 16 ∨ μ 7 s = 32) ∧ ∃ Z : Nat, Z ≤ 40 ∧ μ 8 s = nI Z ∧ ∀ i, i < Z → σ (48 + 2 * s) i = μ 9 (40 * s + i)
def RF (σ μ : gM) : Prop := ∀ k, k < 7 → σ 45 k = μ 5 k
def RK (σ μ : gM) : Prop := (∃ K : Nat, K ≤ 8 ∧ σ 20 0 = nI K) ∧ σ 44 0 = μ 0 0 ∧ (μ 0 0 = 0 ∨ μ 0 0 = 1 ∧ ∃ K, RC (mget σ 12) (μ 4) K)
def RN (σ : gM) : Prop := ∀ j, j < 121 → NB 100000 (σ 41 j)
/-- the class's rows and the reference's rows tell the same -/
def R (σ μ : gM) : Prop := (∃ N, RC (mget σ 0) (μ 1) N) ∧ RK σ μ ∧ RT σ μ ∧ μ 0 2 = 0 ∧ RS σ μ ∧ RF σ μ ∧ RN σ
theorem RC_cong {c c' : gM} {d d' : Nat → Int32} {N : Nat} (hc : ∀ k, k < 12 → c k = c' k) (hd : ∀ j, j < 75 → d j = d' j) (h : RC c d N) : RC c' d' N := by
  obtain ⟨h1, h2, h3, h4, h5, h6, h7, h8, h9⟩ := h
  refine ⟨h1, ?_, ?_, ?_, ?_, ?_, fun j hj => ?_, fun g hg w hw => ?_, fun j hj => ?_⟩
  · rw [← hc 8 (by decide)]; exact h2
  · rw [← hd 0 (by decide)]; exact h3
  · rw [← hc 8 (by decide), ← hd 1 (by decide)]; exact h4
  · rw [← hd 1 (by decide)]; exact h5
  · rw [← hc 8 (by decide), ← hd 2 (by decide)]; exact h6
  · rw [← hc 9 (by decide), ← hd (3 + j) (by omega)]; exact h7 j hj
  · rw [← hc g (by omega), ← hd (9 + 8 * w + g) (by omega)]; exact h8 g hg w hw
  · rw [← hc 10 (by decide), ← hd (65 + j) (by omega)]; exact h9 j hj
theorem R_cong {σ σ' μ μ' : gM} (hσ : ∀ k, k < 55 → σ k = σ' k) (hμ : ∀ k, k < 11 → μ k = μ' k) (h : R σ μ) : R σ' μ' := by
  obtain ⟨⟨N, hC⟩, ⟨⟨K, k1, k2⟩, k3, k4⟩, ⟨T, t1, t2, t3, t4⟩, hg, hS, hF, hN⟩ := h
  have e1 := hμ 1 (by decide)
  have e4 := hμ 4 (by decide)
  have e0 := hμ 0 (by decide)
  refine ⟨⟨N, ?_⟩, ⟨⟨K, k1, ?_⟩, ?_, ?_⟩, ⟨T, t1, ?_, ?_, fun j hj => ?_⟩, ?_, fun s hs => ?_, fun k hk => ?_, fun j hj => ?_⟩
  · exact RC_cong (fun k hk => hσ (0 + k) (by omega)) (fun j _ => by rw [e1]) hC
  · rw [← hσ 20 (by decide)]; exact k2
  · rw [← hσ 44 (by decide), ← e0]; exact k3
  · rw [← e0, ← e4]
    rcases k4 with z | ⟨z, K', z2⟩
    · exact Or.inl z
    · exact Or.inr ⟨z, K', RC_cong (fun k hk => hσ (12 + k) (by omega)) (fun j _ => rfl) z2⟩
  · rw [← hσ 42 (by decide)]; exact t2
  · rw [← e0]; exact t3
  · rw [← hσ 43 (by decide), ← hμ 6 (by decide)]; exact t4 j hj
  · rw [← e0]; exact hg
  · rw [← hσ (47 + 2 * s) (by omega), ← hσ (48 + 2 * s) (by omega), ← hμ 7 (by decide), ← hμ 8 (by decide), ← hμ 9 (by decide)]; exact hS s hs
  · rw [← hσ 45 (by decide), ← hμ 5 (by decide)]; exact hF k hk
  · rw [← hσ 41 (by decide)]; exact hN j hj
theorem NB.pos {b : Nat} {x : Int32} (hb : b < 2 ^ 31) (h : NB b x) : ¬ x < 0 := by
  obtain ⟨v, hv, rfl⟩ := h
  exact nI_pos (by omega)
theorem rf_N {σ μ : gM} (h : R σ μ) : ∃ N, N ≤ 8 ∧ σ 8 0 = nI N ∧ μ 1 0 = nI N ∧ ¬ μ 1 1 < 0 := by
  obtain ⟨N, h1, h2, h3, h4, h5, -⟩ := h.1
  exact ⟨N, h1, h2, h3, h5.pos (by decide)⟩
theorem rf_T {σ μ : gM} (h : R σ μ) : ∃ T, T ≤ 120 ∧ σ 42 0 = nI T ∧ μ 0 1 = nI T := by
  obtain ⟨T, t1, t2, t3, -⟩ := h.2.2.1
  exact ⟨T, t1, t2, t3⟩
theorem rf_SX {σ μ : gM} (h : R σ μ) : ∀ j, j < 4 → ∃ Z, Z ≤ 40 ∧ σ (47 + 2 * j) 1 = nI Z := by
  intro j hj
  obtain ⟨-, a2, -, Z, a3, a4, -⟩ := h.2.2.2.2.1 j hj
  exact ⟨Z, a3, a2.trans a4⟩
theorem rf_SM {σ μ : gM} (h : R σ μ) : ∀ j, j < 4 → ∃ Z, Z ≤ 40 ∧ μ 8 j = nI Z := by
  intro j hj
  obtain ⟨-, -, -, Z, a3, a4, -⟩ := h.2.2.2.2.1 j hj
  exact ⟨Z, a3, a4⟩
theorem rf_K {σ μ : gM} (h : R σ μ) : ∃ K, K ≤ 8 ∧ σ 20 0 = nI K := h.2.1.1
theorem rf_P {σ μ : gM} (h : R σ μ) : ∀ j, j < 10 → ¬ μ 1 (65 + j) = 0 → ∃ g, g < 8 ∧ (μ 1 (65 + j)) - 1 = nI g := by
  intro j hj hne
  obtain ⟨N, h1, h2, h3, h4, h5, h6, h7, h8, h9⟩ := h.1
  obtain ⟨-, v, hv, e⟩ := h9 j hj
  rw [e] at hne ⊢
  have : v ≠ 0 := fun q => hne (by rw [q]; rfl)
  exact ⟨v - 1, by omega, pk_sub (b := 1) (by omega)⟩
theorem mg_X {σ τ : gM} : ∀ k, k < 55 → mget (mput σ 0 55 τ) 0 k = τ k := fun k hk => by
  show mput σ 0 55 τ (0 + k) = τ k
  rw [mput_in _ _ hk]
theorem mg_M {σ τ : gM} : mget (mput σ 0 55 τ) 55 = mget σ 55 := by
  funext k
  show mput σ 0 55 τ (55 + k) = σ (55 + k)
  exact mput_out _ _ (by omega)
def RL2 (σ : gM) : Prop := R (mget σ 0) (mget σ 55)
theorem RL_next {σ τ υ : gM} (h : R τ υ) : RL2 (mput (mput σ 0 55 τ) 55 11 υ) := by
  refine R_cong (fun k hk => ?_) (fun k hk => ?_) h
  · show τ k = mput (mput σ 0 55 τ) 55 11 υ (0 + k)
    rw [mput_out _ _ (by omega), mput_in _ _ hk]
  · show υ k = mput (mput σ 0 55 τ) 55 11 υ (55 + k)
    rw [mput_in _ _ hk]
