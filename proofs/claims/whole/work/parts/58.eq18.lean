/-! the whole text, in step -/
def RES (tk μ0 : gM) (x m : Int32 × gM) : Prop := TKr tk x.2 ∧ FRm μ0 m.2 ∧ ((∃ N i : Nat, i ≤ 121 ∧ x.1 = nI i ∧ m.1 = nI i ∧ m.2 0 6 = -1 ∧ RC x.2 (m.2 1) N) ∨ ∃ s : Nat, s ≤ 120 ∧ x.1 = (-1) - nI s ∧ m.2 0 6 = nI s)
theorem PW.res {b : Nat → Int32} {T L : Nat} {tk μ0 ρ υ ρ0 ρ1 : gM} (C : CX b T L tk μ0) (p : PW T L tk μ0 ρ υ) (n i : Nat) (cnt : Int32) : RES tk μ0 (x_read4_L20 ρ0 ρ1 n i ρ) (cnt, υ) := by
  have e : x_read4_L20 ρ0 ρ1 n i ρ = (((-1) - (x_startAt5 (mget ρ 13) (ρ 12 0))), ρ) := by
    cases n with
    | zero => rfl
    | succ n => unfold x_read4_L20; rw [if_neg p.flag]
  obtain ⟨p1, p2, p3, k, s, p4, p5, p6, p7, p8⟩ := p
  have hT := C.1
  rw [e]
  refine ⟨p1, p2, Or.inr ⟨s, by omega, ?_, p7⟩⟩
  show (-1) - (x_startAt5 (mget ρ 13) (ρ 12 0)) = _
  rw [p5, (at_is C p1 p4).2.2, p6]
theorem itemsL {b : Nat → Int32} {T L : Nat} {tk μ0 ρ0 ρ1 υ0 υ1 : gM} {υ2 : gM} (C : CX b T L tk μ0) : ∀ (n i k N m : Nat) (ρ υ : gM), i + n = 121 → 1 ≤ i → 2 * (i - 1) ≤ k → m + i = T + 3 → PO b T L tk μ0 ρ υ k N → RES tk μ0 (x_read4_L20 ρ0 ρ1 n i ρ) (m_items_L20 υ0 υ1 υ2 m (nI i) (m_item υ))
  | 0, i, k, N, m, ρ, υ, hi, _, hk, _, p => by
    exfalso
    have := p.2.2.1
    have := C.2.1.2.2.1
    have := C.1
    omega
  | n + 1, i, k, N, m, ρ, υ, hi, h1, hk, hm, p => by
    have hkL := p.2.2.1
    have hL := C.2.1.2.2.1
    have hT := C.1
    obtain ⟨m', rfl⟩ : ∃ m', m = m' + 1 := ⟨m - 1, by omega⟩
    obtain ⟨M, pr⟩ := p.item C
    unfold x_read4_L20 m_items_L20
    rw [p.2.2.2.2.1, if_pos rfl]
    rcases pr with ⟨k', hk', q⟩ | q
    · rw [q.2.2.2.2.1, if_pos rfl, if_neg q.kpos, if_neg q.kpos]
      have hq := q
      obtain ⟨q1, q2, q3, q4, q5, q6, ⟨q7, -⟩, q11⟩ := hq
      rw [q4, (at_is C q1 q3).1, q.takes C]
      obtain ⟨s, e, s1, s2, s3, s4, s5, s6⟩ := C.2.1.2.2.2.2 k' q3
      rw [q7]
      rcases s4 with t | t | t | t | t
      · rw [t.1, t.2, if_pos rfl, if_neg (show ¬ (0 : Int32) = 3 by decide), if_pos rfl]
        exact ⟨q1, q2, Or.inl ⟨M, i, by omega, rfl, rfl, q6, q11⟩⟩
      · rw [t.1, t.2, if_neg (show ¬ (15 : Int32) = 17 by decide), if_pos (show (15 : Int32) = 15 from rfl), if_neg (show ¬ (1 : Int32) = 0 by decide), if_pos rfl]
        have pa := q.adv C (by rw [t.1]; decide) (by rw [t.1]; decide)
        rw [nI_1]
        exact itemsL C n (i + 1) (k' + 1) M m' _ _ (by omega) (by omega) (by omega) (by omega) pa
      · rw [t.1, t.2.1, if_neg (show ¬ (16 : Int32) = 17 by decide), if_neg (show ¬ (16 : Int32) = 15 by decide), if_pos rfl, if_neg (show ¬ (4 : Int32) = 3 by decide), if_neg (show ¬ (4 : Int32) = 0 by decide)]
        exact (q.wrong C).res C _ _ _
      · rw [t.1, t.2.1, if_neg (show ¬ (14 : Int32) = 17 by decide), if_neg (show ¬ (14 : Int32) = 15 by decide), if_pos rfl, if_neg (show ¬ (2 : Int32) = 3 by decide), if_neg (show ¬ (2 : Int32) = 0 by decide)]
        exact (q.wrong C).res C _ _ _
      · have n17 : ¬ tk 1 k' = 17 := by
          rcases t.2.2.2 with ⟨r1, -⟩ | ⟨w, r1, r2, -⟩
          · rw [r1]; decide
          · rw [r2]; exact (w_lt w r1).2.1
        have n15 : ¬ tk 1 k' = 15 := by
          rcases t.2.2.2 with ⟨r1, -⟩ | ⟨w, r1, r2, -⟩
          · rw [r1]; decide
          · rw [r2]; exact (w_lt w r1).2.2.2.1
        rw [t.1, if_neg n17, if_neg n15, if_pos rfl, if_neg (show ¬ (1 : Int32) = 3 by decide), if_neg (show ¬ (1 : Int32) = 0 by decide)]
        exact (q.wrong C).res C _ _ _
    · rw [if_neg q.flag, if_pos (q.pos hT), if_pos (q.pos hT), q.takes, if_pos rfl]
      exact q.again.res C _ _ _
theorem R_parts2 {σ σ' μ μ' : gM} (h : R σ μ)
    (C : (∃ N, RC σ' (μ' 1) N) ∨ ((∀ k, k < 12 → σ' k = σ k) ∧ ∀ j, j < 75 → μ' 1 j = μ 1 j))
    (K : RK σ' μ' ∨ ((∀ k, 12 ≤ k → k < 24 → σ' k = σ k) ∧ σ' 44 0 = σ 44 0 ∧ μ' 0 0 = μ 0 0 ∧ ∀ j, j < 75 → μ' 4 j = μ 4 j))
    (T : RT σ' μ' ∨ (σ' 42 0 = σ 42 0 ∧ σ' 43 = σ 43 ∧ μ' 0 1 = μ 0 1 ∧ μ' 6 = μ 6))
    (G : μ' 0 2 = 0)
    (S : RS σ' μ' ∨ ((∀ k, 47 ≤ k → k < 55 → σ' k = σ k) ∧ μ' 7 = μ 7 ∧ μ' 8 = μ 8 ∧ μ' 9 = μ 9))
    (F : σ' 45 = σ 45 ∧ μ' 5 = μ 5)
    (N : RN σ') : R σ' μ' := by
  have hr : R (mset2 σ' 41 (σ 41)) μ' := by
    sorry
  sorry
