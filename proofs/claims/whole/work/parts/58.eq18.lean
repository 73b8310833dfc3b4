/-! the whole text, in step -/
def RES (tk μ0 : gM) (x m : Int32 × gM) : Prop := TKr tk x.2 ∧ FRm μ0 m.2 ∧ ((∃ N i : Nat, i ≤ 121 ∧ x.1 = nI i ∧ m.1 = nI i ∧ m.2 0 6 = -1 ∧ RC x.2 (m.2 1) N) ∨ ∃ s : Nat, s ≤ 120 ∧ x.1 = (-1) - nI s ∧ m.2 0 6 = nI s)
theorem PW.res {b : Nat → Int32} {T L : Nat} {tk μ0 ρ υ ρ0 ρ1 : gM} (C : CX b T L tk μ0) (p : PW T L tk μ0 ρ υ) (n i : Nat) (cnt : Int32) : RES tk μ0 (x_read4_L20 ρ0 ρ1 n i ρ) (cnt, υ) := by
  have e : x_read4_L20 ρ0 ρ1 n i ρ = (((-1) - (x_startAt5 (mget ρ 13) (ρ 12 0))), ρ) := by
    cases n with
    | zero => rfl
    | succ n => unfold x_read4_L20; rw [if_neg p.flag]
  obtain ⟨p1, p2, p3, k, s, p4, p5, p6, p7, p8⟩ := p
  have hT := C.1
  rw [e]
  refine ⟨p1, p2, Or.inr ⟨s, by omega, ?_, p7⟩⟩
  show (-1) - (x_startAt5 (mget ρ 13) (ρ 12 0)) = _
  rw [p5, (at_is C p1 p4).2.2, p6]
theorem itemsL {b : Nat → Int32} {T L : Nat} {tk μ0 ρ0 ρ1 υ0 υ1 : gM} {υ2 : gM} (C : CX b T L tk μ0) : ∀ (n i k N m : Nat) (ρ υ : gM), i + n = 121 → 1 ≤ i → 2 * (i - 1) ≤ k → m + i = T + 3 → PO b T L tk μ0 ρ υ k N → RES tk μ0 (x_read4_L20 ρ0 ρ1 n i ρ) (m_items_L20 υ0 υ1 υ2 m (nI i) (m_item υ))
  | 0, i, k, N, m, ρ, υ, hi, _, hk, _, p => by
    exfalso
    have := p.2.2.1
    have := C.2.1.2.2.1
    have := C.1
    omega
  | n + 1, i, k, N, m, ρ, υ, hi, h1, hk, hm, p => by
    have hkL := p.2.2.1
    have hL := C.2.1.2.2.1
    have hT := C.1
    obtain ⟨m', rfl⟩ : ∃ m', m = m' + 1 := ⟨m - 1, by omega⟩
    obtain ⟨M, pr⟩ := p.item C
    unfold x_read4_L20 m_items_L20
    rw [p.2.2.2.2.1, if_pos rfl]
    rcases pr with ⟨k', hk', q⟩ | q
    · rw [q.2.2.2.2.1, if_pos rfl, if_neg q.kpos, if_neg q.kpos]
      have hq := q
      obtain ⟨q1, q2, q3, q4, q5, q6, ⟨q7, -⟩, q11⟩ := hq
      rw [q4, (at_is C q1 q3).1, q.takes C]
      obtain ⟨s, e, s1, s2, s3, s4, s5, s6⟩ := C.2.1.2.2.2.2 k' q3
      rw [q7]
      rcases s4 with t | t | t | t | t
      · rw [t.1, t.2, if_pos rfl, if_neg (show ¬ (0 : Int32) = 3 by decide), if_pos rfl]
        exact ⟨q1, q2, Or.inl ⟨M, i, by omega, rfl, rfl, q6, q11⟩⟩
      · rw [t.1, t.2, if_neg (show ¬ (15 : Int32) = 17 by decide), if_pos (show (15 : Int32) = 15 from rfl), if_neg (show ¬ (1 : Int32) = 0 by decide), if_pos rfl]
        have pa := q.adv C (by rw [t.1]; decide) (by rw [t.1]; decide)
        rw [nI_1]
        exact itemsL C n (i + 1) (k' + 1) M m' _ _ (by omega) (by omega) (by omega) (by omega) pa
      · rw [t.1, t.2.1, if_neg (show ¬ (16 : Int32) = 17 by decide), if_neg (show ¬ (16 : Int32) = 15 by decide), if_pos rfl, if_neg (show ¬ (4 : Int32) = 3 by decide), if_neg (show ¬ (4 : Int32) = 0 by decide)]
        exact (q.wrong C).res C _ _ _
      · rw [t.1, t.2.1, if_neg (show ¬ (14 : Int32) = 17 by decide), if_neg (show ¬ (14 : Int32) = 15 by decide), if_pos rfl, if_neg (show ¬ (2 : Int32) = 3 by decide), if_neg (show ¬ (2 : Int32) = 0 by decide)]
        exact (q.wrong C).res C _ _ _
      · have n17 : ¬ tk 1 k' = 17 := by
          rcases t.2.2.2 with ⟨r1, -⟩ | ⟨w, r1, r2, -⟩
          · rw [r1]; decide
          · rw [r2]; exact (w_lt w r1).2.1
        have n15 : ¬ tk 1 k' = 15 := by
          rcases t.2.2.2 with ⟨r1, -⟩ | ⟨w, r1, r2, -⟩
          · rw [r1]; decide
          · rw [r2]; exact (w_lt w r1).2.2.2.1
        rw [t.1, if_neg n17, if_neg n15, if_pos rfl, if_neg (show ¬ (1 : Int32) = 3 by decide), if_neg (show ¬ (1 : Int32) = 0 by decide)]
        exact (q.wrong C).res C _ _ _
    · rw [if_neg q.flag, if_pos (q.pos hT), if_pos (q.pos hT), q.takes, if_pos rfl]
      exact q.again.res C _ _ _
theorem R_parts2 {σ σ' μ μ' : gM} (h : R σ μ)
    (C : (∃ N, RC σ' (μ' 1) N) ∨ ((∀ k, k < 12 → σ' k = σ k) ∧ ∀ j, j < 75 → μ' 1 j = μ 1 j))
    (K : RK σ' μ' ∨ ((∀ k, 12 ≤ k → k < 24 → σ' k = σ k) ∧ σ' 44 0 = σ 44 0 ∧ μ' 0 0 = μ 0 0 ∧ ∀ j, j < 75 → μ' 4 j = μ 4 j))
    (T : RT σ' μ' ∨ (σ' 42 0 = σ 42 0 ∧ σ' 43 = σ 43 ∧ μ' 0 1 = μ 0 1 ∧ μ' 6 = μ 6))
    (G : μ' 0 2 = 0)
    (S : RS σ' μ' ∨ ((∀ k, 47 ≤ k → k < 55 → σ' k = σ k) ∧ μ' 7 = μ 7 ∧ μ' 8 = μ 8 ∧ μ' 9 = μ 9))
    (F : σ' 45 = σ 45 ∧ μ' 5 = μ 5)
    (N : RN σ') : R σ' μ' := by
  obtain ⟨⟨M, hC⟩, hK, hT, hg, hS, hF, hN⟩ := h
  rw [mg0] at hC
  refine ⟨?_, ?_, ?_, G, ?_, fun q hq => ?_, N⟩
  · rw [mg0]
    rcases C with c | ⟨c1, c2⟩
    · exact c
    · exact ⟨M, RC_cong (fun k hk => (c1 k hk).symm) (fun j hj => (c2 j hj).symm) hC⟩
  · rcases K with k | ⟨a1, a2, a3, a4⟩
    · exact k
    · obtain ⟨⟨K, k1, k2⟩, k3, k4⟩ := hK
      refine ⟨⟨K, k1, ?_⟩, ?_, ?_⟩
      · rw [a1 20 (by decide) (by decide)]; exact k2
      · rw [a2, a3]; exact k3
      · rw [a3]
        rcases k4 with z | ⟨z, K', z2⟩
        · exact Or.inl z
        · exact Or.inr ⟨z, K', RC_cong (fun j hj => (a1 (12 + j) (by omega) (by omega)).symm) (fun j hj => (a4 j hj).symm) z2⟩
  · rcases T with t | ⟨a1, a2, a3, a4⟩
    · exact t
    · obtain ⟨T, t1, t2, t3, t4⟩ := hT
      exact ⟨T, t1, a1.trans t2, a3.trans t3, fun j hj => by rw [a2, a4]; exact t4 j hj⟩
  · rcases S with s | ⟨a1, a2, a3, a4⟩
    · exact s
    · intro q hq
      rw [a1 _ (by omega) (by omega), a1 _ (by omega) (by omega), a2, a3, a4]
      exact hS q hq
  · rw [F.1, F.2]; exact hF q hq
theorem eq_text {σ μ : gM} (h : R σ μ)  : (x_text σ).1 = (m_text μ).1 ∧ R (x_text σ).2 (m_text μ).2 := by
  obtain ⟨N, H⟩ := h.1
  have hR := h
  obtain ⟨-, hK, ⟨T, t1, t2, t3, t4⟩, hz, hS, hF, hN⟩ := hR
  have Hb := RC_bec (a := 24) H
  have b_o : ∀ k, ¬ (24 ≤ k ∧ k < 36) → (bec σ 24 0) k = σ k := fun k hk => bec_o H (by omega)
  have c_o : ∀ k, k ≠ 2 → (m_copies μ 1 2) k = μ k := fun k hk => cp_row (by decide) _ hk
  -- the tokens
  have e5 : (mget (mget (bec σ 24 0) 24) 13) 5 0 = nI T := by
    show (bec σ 24 0) 42 0 = nI T
    rw [b_o 42 (by omega)]; exact t2
  have e6 : (mget (mget (bec σ 24 0) 24) 13) 6 = σ 43 := by
    show (bec σ 24 0) 43 = σ 43
    exact b_o 43 (by omega)
  have e4 : ∀ j, j < 121 → NB 100000 ((mget (mget (bec σ 24 0) 24) 13) 4 j) := fun j hj => by
    show NB 100000 ((bec σ 24 0) 41 j)
    rw [b_o 41 (by omega)]; exact hN j hj
  have m01 : (m_copies μ 1 2) 0 1 = nI T := by rw [c_o 0 (by decide)]; exact t3
  have hb : ∀ j, j < T → m_byteAt (m_copies μ 1 2) j = σ 43 j := fun j hj => by
    unfold m_byteAt
    rw [m01, if_neg (fun q => by have := (nI_leI (by omega) (by omega)).mp q; omega), c_o 6 (by decide)]
    exact (t4 j hj).symm
  have hb2 : m_byteAt (m_copies μ 1 2) T = -1 := by
    unfold m_byteAt
    rw [m01, if_pos ((nI_leI (by omega) (by omega)).mpr (Nat.le_refl _))]
  obtain ⟨L, ts, tn⟩ := read_TS t1 e5 e6 hb hb2 e4
  -- the start
  have C : CX (m_byteAt (m_copies μ 1 2)) T L (x_readFrom5 (mget (mget (bec σ 24 0) 24) 13)) (m_copies μ 1 2) := ⟨t1, ts, rfl, m01⟩
  have u0 : ∀ r, r ≠ 0 → (mset (mset (m_copies μ 1 2) 0 3 0) 0 6 (-1)) r = (m_copies μ 1 2) r := fun r hr => by rw [mset_ne _ _ _ hr, mset_ne _ _ _ hr]
  have u1 : ∀ j, j ≠ 3 → j ≠ 6 → (mset (mset (m_copies μ 1 2) 0 3 0) 0 6 (-1)) 0 j = (m_copies μ 1 2) 0 j := fun j h3 h6 => by rw [mset_at, upd_ne _ _ h6, mset_at, upd_ne _ _ h3]
  have u3 : (mset (mset (m_copies μ 1 2) 0 3 0) 0 6 (-1)) 0 3 = nI 0 := by rw [mset_at, upd_ne _ _ (by decide), mset_at, upd_at]; rfl
  have u6 : (mset (mset (m_copies μ 1 2) 0 3 0) 0 6 (-1)) 0 6 = -1 := by rw [mset_at, upd_at]
  have nt := next_is t1 ((u1 1 (by decide) (by decide)).trans m01) u3 (Nat.zero_le _)
  rw [mb_cong (u1 1 (by decide) (by decide)) (u0 6 (by decide))] at nt
  obtain ⟨n1, n2, n3, n4, n5, n6⟩ := nt
  have p : PO (m_byteAt (m_copies μ 1 2)) T L (x_readFrom5 (mget (mget (bec σ 24 0) 24) 13)) (m_copies μ 1 2) (mset (mset (mput (mget (bec σ 24 0) 24) 13 7 (x_readFrom5 (mget (mget (bec σ 24 0) 24) 13))) 12 0 0) 12 1 0) (m_next (mset (mset (m_copies μ 1 2) 0 3 0) 0 6 (-1))) 0 N := by
    refine ⟨fun r hr => ?_, ⟨fun r r0 _ => (n1 r r0).trans (u0 r r0), fun j hj => (n2 j (by omega) (by omega) (by omega) (by omega) (by omega)).trans (u1 j (by omega) (by omega))⟩, ts.2.1, ?_, ?_, ?_, ?_, ?_⟩
    · rw [mset_ne _ _ _ (by omega), mset_ne _ _ _ (by omega), mput_in _ _ (by omega)]
    · rw [mset_at, upd_ne _ _ (by decide), mset_at, upd_at]; rfl
    · rw [mset_at, upd_at]
    · exact (n2 6 (by decide) (by decide) (by decide) (by decide) (by decide)).trans u6
    · rw [ts.2.2.2.1]; exact ⟨n3, n4, n5, n6⟩
    · rw [n1 1 (by decide), u0 1 (by decide), c_o 1 (by decide)]
      exact Hb.up (fun r hr => by rw [mset_ne _ _ _ (by omega), mset_ne _ _ _ (by omega), mput_out _ _ (by omega)])
  have it := itemsL (ρ0 := mget (bec σ 24 0) 24) (ρ1 := mput (mget (bec σ 24 0) 24) 13 7 (x_readFrom5 (mget (mget (bec σ 24 0) 24) 13))) (υ0 := m_copies μ 1 2) (υ1 := m_next (mset (mset (m_copies μ 1 2) 0 3 0) 0 6 (-1))) (υ2 := m_item (m_next (mset (mset (m_copies μ 1 2) 0 3 0) 0 6 (-1)))) C 120 1 0 N (T + 2) _ _ rfl (Nat.le_refl _) (by omega) (by omega) p
  have ex : x_read4 (mget (bec σ 24 0) 24) = x_read4_L20 (mget (bec σ 24 0) 24) (mput (mget (bec σ 24 0) 24) 13 7 (x_readFrom5 (mget (mget (bec σ 24 0) 24) 13))) 120 1 (mset (mset (mput (mget (bec σ 24 0) 24) 13 7 (x_readFrom5 (mget (mget (bec σ 24 0) 24) 13))) 12 0 0) 12 1 0) := rfl
  have em : m_items (m_copies μ 1 2) = m_items_L20 (m_copies μ 1 2) (m_next (mset (mset (m_copies μ 1 2) 0 3 0) 0 6 (-1))) (m_item (m_next (mset (mset (m_copies μ 1 2) 0 3 0) 0 6 (-1)))) (T + 2) (nI 1) (m_item (m_next (mset (mset (m_copies μ 1 2) 0 3 0) 0 6 (-1)))) := by
    unfold m_items m_items_m1 m_items_m2
    rw [m01, nN_nI (by omega)]
    rfl
  rw [← ex, ← em] at it
  clear ex em p
  unfold x_text x_text_m1 x_text_m2 x_text_m3 m_text m_text_m1 m_text_m2
  generalize x_read4 (mget (bec σ 24 0) 24) = X at it
  generalize m_items (m_copies μ 1 2) = M at it
  obtain ⟨k1, k2, k3⟩ := it
  have s2i : ∀ r, r < 20 → (mput (bec σ 24 0) 24 20 X.2) (24 + r) = X.2 r := fun r hr => mput_in _ _ hr
  have s2o : ∀ r, ¬ (24 ≤ r ∧ r < 44) → (mput (bec σ 24 0) 24 20 X.2) r = σ r := fun r hr => by rw [mput_out _ _ (by omega), b_o r (by omega)]
  have nn : ∀ j, j < 121 → NB 100000 ((mput (bec σ 24 0) 24 20 X.2) 41 j) := fun j hj => by
    rw [show (41 : Nat) = 24 + 17 from rfl, s2i 17 (by decide), show (17 : Nat) = 13 + 4 from rfl, k1 4 (by decide)]
    exact tn j hj
  have mo : ∀ r, r ≠ 0 → r ≠ 1 → r ≠ 2 → M.2 r = μ r := fun r r0 r1 r2 => (k2.1 r r0 r1).trans (c_o r r2)
  have m0 : ∀ j, j ≤ 2 → M.2 0 j = μ 0 j := fun j hj => (k2.2 j hj).trans (by rw [c_o 0 (by decide)])
  rcases k3 with ⟨N', i, k4, k5, k6, k7, k8⟩ | ⟨s, k4, k5, k6⟩
  · rw [k5, k6, if_neg (nI_pos (by omega)), k7, if_pos (by decide)]
    have H2 : RC (mget (mput (bec σ 24 0) 24 20 X.2) 24) (M.2 1) N' := k8.up (fun r hr => s2i r (by omega))
    have H3 := RC_bec (a := 0) H2
    rw [mg0] at H3
    have s3o : ∀ r, 12 ≤ r → (bec (mput (bec σ 24 0) 24 20 X.2) 0 24) r = (mput (bec σ 24 0) 24 20 X.2) r := fun r hr => bec_o H2 (by omega)
    have so : ∀ r, 12 ≤ r → r ≠ 42 → (mset (bec (mput (bec σ 24 0) 24 20 X.2) 0 24) 42 0 0) r = (mput (bec σ 24 0) 24 20 X.2) r := fun r hr h42 => by rw [mset_ne _ _ _ h42, s3o r hr]
    have w0 : ∀ j, j ≤ 2 → j ≠ 1 → (mset M.2 0 1 0) 0 j = μ 0 j := fun j hj h1 => by rw [mset_at, upd_ne _ _ h1]; exact m0 j hj
    have wr : ∀ r, r ≠ 0 → r ≠ 1 → r ≠ 2 → (mset M.2 0 1 0) r = μ r := fun r r0 r1 r2 => by rw [mset_ne _ _ _ r0]; exact mo r r0 r1 r2
    refine And.intro rfl ?_
    show R (mset (bec (mput (bec σ 24 0) 24 20 X.2) 0 24) 42 0 0) (mset M.2 0 1 0)
    refine R_parts2 h (Or.inl ⟨N', ?_⟩) (Or.inr ⟨fun r h1 h2 => ?_, ?_, w0 0 (by decide) (by decide), fun j _ => ?_⟩) (Or.inl ⟨0, by decide, ?_, ?_, fun j hj => by omega⟩) ((w0 2 (by decide) (by decide)).trans hz) (Or.inr ⟨fun r h1 h2 => ?_, wr 7 (by decide) (by decide) (by decide), wr 8 (by decide) (by decide) (by decide), wr 9 (by decide) (by decide) (by decide)⟩) ⟨?_, wr 5 (by decide) (by decide) (by decide)⟩ (fun j hj => ?_)
    · rw [mset_ne _ _ _ (by decide)]
      exact H3.up (fun r hr => mset_ne _ _ _ (by omega))
    · rw [so r h1 (by omega), s2o r (by omega)]
    · rw [so 44 (by decide) (by decide), s2o 44 (by omega)]
    · rw [wr 4 (by decide) (by decide) (by decide)]
    · rw [mset_at, upd_at]; rfl
    · rw [mset_at, upd_at]; rfl
    · rw [so r (by omega) (by omega), s2o r (by omega)]
    · rw [so 45 (by decide) (by decide), s2o 45 (by omega)]
    · rw [so 41 (by decide) (by decide)]; exact nn j hj
  · have neg : (-1) - nI s < 0 := by
      rw [Int32.lt_iff_toInt_lt, Int32.toInt_sub, nI_toInt (by omega), show (-1 : Int32).toInt = -1 from rfl, show (0 : Int32).toInt = 0 from rfl, Int.bmod_eq_of_le (by omega) (by omega)]
      omega
    have w0 : ∀ j, j ≠ 1 → (m_copies (mset M.2 0 1 0) 2 1) 0 j = M.2 0 j := fun j h1 => by rw [cp_row (by decide) _ (by decide), mset_at, upd_ne _ _ h1]
    have wr : ∀ r, r ≠ 0 → r ≠ 1 → r ≠ 2 → (m_copies (mset M.2 0 1 0) 2 1) r = μ r := fun r r0 r1 r2 => by rw [cp_row (by decide) _ r1, mset_ne _ _ _ r0]; exact mo r r0 r1 r2
    have so : ∀ r, r ≠ 42 → (mset (mput (bec σ 24 0) 24 20 X.2) 42 0 0) r = (mput (bec σ 24 0) 24 20 X.2) r := fun r hr => mset_ne _ _ _ hr
    rw [k5, if_pos neg, if_neg (show ¬ M.2 0 6 < 0 by rw [k6]; exact nI_pos (by omega)), w0 6 (by decide), k6]
    refine And.intro rfl ?_
    show R (mset (mput (bec σ 24 0) 24 20 X.2) 42 0 0) (m_copies (mset M.2 0 1 0) 2 1)
    refine R_parts2 h (Or.inr ⟨fun r hr => ?_, fun j hj => ?_⟩) (Or.inr ⟨fun r h1 h2 => ?_, ?_, (w0 0 (by decide)).trans (m0 0 (by decide)), fun j _ => ?_⟩) (Or.inl ⟨0, by decide, ?_, ?_, fun j hj => by omega⟩) ((w0 2 (by decide)).trans ((m0 2 (by decide)).trans hz)) (Or.inr ⟨fun r h1 h2 => ?_, wr 7 (by decide) (by decide) (by decide), wr 8 (by decide) (by decide) (by decide), wr 9 (by decide) (by decide) (by decide)⟩) ⟨?_, wr 5 (by decide) (by decide) (by decide)⟩ (fun j hj => ?_)
    · rw [so r (by omega), s2o r (by omega)]
    · rw [cp_at (by decide) _ hj, mset_ne _ _ _ (by decide), k2.1 2 (by decide) (by decide), cp_at (by decide) _ hj]
    · rw [so r (by omega), s2o r (by omega)]
    · rw [so 44 (by decide), s2o 44 (by omega)]
    · rw [wr 4 (by decide) (by decide) (by decide)]
    · rw [mset_at, upd_at]; rfl
    · rw [cp_row (by decide) _ (by decide), mset_at, upd_at]; rfl
    · rw [so r (by omega), s2o r (by omega)]
    · rw [so 45 (by decide), s2o 45 (by omega)]
    · rw [so 41 (by decide)]; exact nn j hj
theorem rf_tok {σ μ : gM} (h : R σ μ) : ∃ L2, L2 ≤ 121 ∧ (x_readFrom5 (mget σ 37)) 0 0 = nI L2 ∧ ∀ j, j < 121 → ¬ (x_readFrom5 (mget σ 37)) 4 j < 0 := by
  obtain ⟨-, hK, ⟨T, t1, t2, t3, t4⟩, hz, hS, hF, hN⟩ := h
  obtain ⟨L, ts, tn⟩ := read_TS (σ := mget σ 37) (β := σ 43) (b := fun j => if j < T then σ 43 j else -1) t1 t2 rfl (fun j hj => if_pos hj) (if_neg (by omega)) (fun j hj => hN j hj)
  refine ⟨L, by have := ts.2.2.1; omega, ts.1, fun j hj => ?_⟩
  obtain ⟨v, hv, e⟩ := tn j hj
  rw [e]
  exact nI_pos (by omega)
