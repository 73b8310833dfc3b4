/-! the rest that asks: answers alike -/
theorem R_parts {σ σ' μ μ' : gM} (h : R σ μ)
    (C : (∃ N, RC σ' (μ' 1) N) ∨ ((∀ k, k < 12 → σ' k = σ k) ∧ ∀ j, j < 75 → μ' 1 j = μ 1 j))
    (K : RK σ' μ' ∨ ((∀ k, 12 ≤ k → k < 24 → σ' k = σ k) ∧ σ' 44 0 = σ 44 0 ∧ μ' 0 0 = μ 0 0 ∧ ∀ j, j < 75 → μ' 4 j = μ 4 j))
    (T : RT σ' μ' ∨ (σ' 42 0 = σ 42 0 ∧ σ' 43 = σ 43 ∧ μ' 0 1 = μ 0 1 ∧ μ' 6 = μ 6))
    (G : μ' 0 2 = 0)
    (S : RS σ' μ' ∨ ((∀ k, 47 ≤ k → k < 55 → σ' k = σ k) ∧ μ' 7 = μ 7 ∧ μ' 8 = μ 8 ∧ μ' 9 = μ 9))
    (F : σ' 45 = σ 45 ∧ μ' 5 = μ 5)
    (N : σ' 41 = σ 41) : R σ' μ' := by
  obtain ⟨⟨M, hC⟩, hK, hT, hg, hS, hF, hN⟩ := h
  rw [mg0] at hC
  refine ⟨?_, ?_, ?_, G, ?_, fun q hq => ?_, fun j hj => ?_⟩
  · rw [mg0]
    rcases C with c | ⟨c1, c2⟩
    · exact c
    · exact ⟨M, RC_cong (fun k hk => (c1 k hk).symm) (fun j hj => (c2 j hj).symm) hC⟩
  · rcases K with k | ⟨a1, a2, a3, a4⟩
    · exact k
    · obtain ⟨⟨K, k1, k2⟩, k3, k4⟩ := hK
      refine ⟨⟨K, k1, ?_⟩, ?_, ?_⟩
      · rw [a1 20 (by decide) (by decide)]; exact k2
      · rw [a2, a3]; exact k3
      · rw [a3]
        rcases k4 with z | ⟨z, K', z2⟩
        · exact Or.inl z
        · exact Or.inr ⟨z, K', RC_cong (fun j hj => (a1 (12 + j) (by omega) (by omega)).symm) (fun j hj => (a4 j hj).symm) z2⟩
  · rcases T with t | ⟨a1, a2, a3, a4⟩
    · exact t
    · obtain ⟨T, t1, t2, t3, t4⟩ := hT
      exact ⟨T, t1, a1.trans t2, a3.trans t3, fun j hj => by rw [a2, a4]; exact t4 j hj⟩
  · rcases S with s | ⟨a1, a2, a3, a4⟩
    · exact s
    · intro q hq
      rw [a1 _ (by omega) (by omega), a1 _ (by omega) (by omega), a2, a3, a4]
      exact hS q hq
  · rw [F.1, F.2]; exact hF q hq
  · rw [N]; exact hN j hj
theorem mg_8 (σ : gM) (a : Nat) : mget σ a 8 = σ (a + 8) := rfl
theorem RC_bec {σ : gM} {d : Nat → Int32} {a b N : Nat} (H : RC (mget σ b) d N) : RC (mget (bec σ a b) a) d N := by
  have h8 := H.n8
  have hs : σ (b + 8) 0 = nI N := H.cN
  refine ⟨h8, ?_, H.dN, ?_, H.day.2, ?_, fun j hj => ⟨?_, (H.li hj).2⟩, fun g hg w hw => ⟨?_, (H.gl hg hw).2⟩, fun j hj => ⟨?_, (H.sp hj).2⟩⟩
  · exact (bec_8 h8 hs (j := 0) (by decide)).trans hs
  · exact (bec_8 h8 hs (j := 1) (by decide)).trans H.day.1
  · exact (bec_8 h8 hs (j := 2) (by decide)).trans H.z
  · exact (bec_9 h8 hs hj).trans (H.li hj).1
  · exact (bec_g h8 hs hg hw).trans (H.gl hg hw).1
  · exact (bec_10 h8 hs hj).trans (H.sp hj).1
theorem bec_o {σ : gM} {d : Nat → Int32} {a b N : Nat} (H : RC (mget σ b) d N) {k : Nat} (hk : ¬ (a ≤ k ∧ k < a + 12)) : (bec σ a b) k = σ k := bec_out H.n8 (show σ (b + 8) 0 = nI N from H.cN) hk
theorem RK.frame {σ σ' μ μ' : gM} (h : RK σ μ) (a1 : ∀ k, 12 ≤ k → k < 24 → σ' k = σ k) (a2 : σ' 44 0 = μ' 0 0) (a3 : μ' 0 0 = 0) : RK σ' μ' := by
  obtain ⟨⟨K, k1, k2⟩, k3, k4⟩ := h
  exact ⟨⟨K, k1, by rw [a1 20 (by decide) (by decide)]; exact k2⟩, a2, Or.inl a3⟩
theorem eq_seed {σ μ : gM} (h : R σ μ) (v : Int32) : (x_seed σ v).1 = (m_seed μ v).1 ∧ R (x_seed σ v).2 (m_seed μ v).2 := by
  obtain ⟨N, H⟩ := h.1
  rw [mg0] at H
  have h8 := H.n8
  refine ⟨H.z, ?_⟩
  have hR : RC (mset σ 8 2 v) (mset μ 1 2 v 1) N → R (mset σ 8 2 v) (mset μ 1 2 v) := fun q => R_club h ⟨N, q⟩ (fun k hk => mset_ne _ _ _ (by omega)) (fun k h1 _ _ _ => mset_ne _ _ _ h1)
  refine hR ⟨h8, ?_, ?_, ?_, ?_, ?_, fun j hj => ?_, fun g hg w hw => ?_, fun j hj => ?_⟩
  · rw [mset_at, upd_ne _ _ (by decide)]; exact H.cN
  · rw [mset_at, upd_ne _ _ (by omega)]; exact H.dN
  · rw [mset_at, mset_at, upd_ne _ _ (by decide), upd_ne _ _ (by decide)]; exact H.day.1
  · rw [mset_at, upd_ne _ _ (by omega)]; exact H.day.2
  · rw [mset_at, mset_at, upd_at, upd_at]
  · rw [mset_ne _ _ _ (by omega), mset_at, upd_ne _ _ (by omega)]; exact H.li hj
  · rw [mset_ne _ _ _ (by omega), mset_at, upd_ne _ _ (by omega)]; exact H.gl hg hw
  · rw [mset_ne _ _ _ (by omega), mset_at, upd_ne _ _ (by omega)]; exact H.sp hj
theorem eq_tear {σ μ : gM} (h : R σ μ)  : (x_tear σ).1 = (m_tear μ).1 ∧ R (x_tear σ).2 (m_tear μ).2 := by
  have hR : R (mset σ 44 0 0) (mset μ 0 0 0) := by
    refine R_parts h (Or.inr ⟨fun k hk => mset_ne _ _ _ (by omega), fun j _ => by rw [mset_ne _ _ _ (by decide)]⟩) (Or.inl (h.2.1.frame (fun k _ hk => mset_ne _ _ _ (by omega)) ?_ ?_)) (Or.inr ⟨?_, ?_, ?_, ?_⟩) ?_ (Or.inr ⟨fun k _ _ => mset_ne _ _ _ (by omega), ?_, ?_, ?_⟩) ⟨?_, ?_⟩ ?_
    · rw [mset_at, mset_at, upd_at, upd_at]
    · rw [mset_at, upd_at]
    · rw [mset_ne _ _ _ (by decide)]
    · rw [mset_ne _ _ _ (by decide)]
    · rw [mset_at, upd_ne _ _ (by decide)]
    · rw [mset_ne _ _ _ (by decide)]
    · rw [mset_at, upd_ne _ _ (by decide)]; exact h.2.2.2.1
    · rw [mset_ne _ _ _ (by decide)]
    · rw [mset_ne _ _ _ (by decide)]
    · rw [mset_ne _ _ _ (by decide)]
    · rw [mset_ne _ _ _ (by decide)]
    · rw [mset_ne _ _ _ (by decide)]
    · rw [mset_ne _ _ _ (by decide)]
  unfold x_tear m_tear
  rw [h.2.1.2.1]
  by_cases c : μ 0 0 = 0
  · rw [if_pos c, if_pos c]; exact ⟨rfl, hR⟩
  · rw [if_neg c, if_neg c]; exact ⟨rfl, hR⟩
theorem eq_wipe {σ μ : gM} (h : R σ μ)  : (x_wipe σ).1 = (m_wipe μ).1 ∧ R (x_wipe σ).2 (m_wipe μ).2 := by
  have hR : R (mset σ 42 0 0) (mset μ 0 1 0) := by
    refine R_parts h (Or.inr ⟨fun k hk => mset_ne _ _ _ (by omega), fun j _ => by rw [mset_ne _ _ _ (by decide)]⟩) (Or.inr ⟨fun k _ hk => mset_ne _ _ _ (by omega), ?_, ?_, fun j _ => ?_⟩) (Or.inl ⟨0, by decide, ?_, ?_, fun j hj => by omega⟩) ?_ (Or.inr ⟨fun k _ _ => mset_ne _ _ _ (by omega), ?_, ?_, ?_⟩) ⟨?_, ?_⟩ ?_
    · rw [mset_ne _ _ _ (by decide)]
    · rw [mset_at, upd_ne _ _ (by decide)]
    · rw [mset_ne _ _ _ (by decide)]
    · rw [mset_at, upd_at]; rfl
    · rw [mset_at, upd_at]; rfl
    · rw [mset_at, upd_ne _ _ (by decide)]; exact h.2.2.2.1
    · rw [mset_ne _ _ _ (by decide)]
    · rw [mset_ne _ _ _ (by decide)]
    · rw [mset_ne _ _ _ (by decide)]
    · rw [mset_ne _ _ _ (by decide)]
    · rw [mset_ne _ _ _ (by decide)]
    · rw [mset_ne _ _ _ (by decide)]
  obtain ⟨T, t1, t2, t3⟩ := rf_T h
  exact ⟨t2.trans t3.symm, hR⟩
theorem know_nb {c μ : gM} {N : Nat} (H : RC c (μ 1) N) {s : Int32} {w : Nat} (hw : w = 3 ∨ w = 5) : ∀ (n i : Nat) (acc : Int32), i + n = N → NB 65535 acc → NB 65535 (m_known_L5 μ s w n i acc)
  | 0, i, acc, _, ha => ha
  | n + 1, i, acc, h, ha => by
    have hb : NB 65535 (m_its μ i w) := by
      rcases hw with rfl | rfl
      · exact H.nb (by omega) (w := 3) (by decide)
      · exact H.nb (by omega) (w := 5) (by decide)
    unfold m_known_L5
    split
    · exact know_nb H hw n (i + 1) _ (by omega) (by first | exact ha | (rw [Int32.or_zero]; exact ha) | exact ha.or hb)
    · exact know_nb H hw n (i + 1) _ (by omega) (by first | exact ha.or hb | exact ha | (rw [Int32.or_zero]; exact ha))
theorem all_nb {c μ : gM} {N : Nat} (H : RC c (μ 1) N) : NB 65535 (m_allKnow μ) ∧ NB 65535 (m_allHands μ) := by
  refine ⟨?_, ?_⟩
  · unfold m_allKnow m_known
    rw [H.dn]
    exact know_nb H (Or.inl rfl) N 0 0 (by omega) ⟨0, by decide, rfl⟩
  · unfold m_allHands m_known
    rw [H.dn]
    exact know_nb H (Or.inr rfl) N 0 0 (by omega) ⟨0, by decide, rfl⟩
theorem eq_count {σ μ : gM} (h : R σ μ) (what : Int32) : (x_count σ what).1 = (m_count μ what).1 ∧ R (x_count σ what).2 (m_count μ what).2 := by
  obtain ⟨N, H⟩ := h.1
  rw [mg0] at H
  obtain ⟨T, t1, t2, t3⟩ := rf_T h
  obtain ⟨a1, a2, a3⟩ := all_eq H
  obtain ⟨n1, n2⟩ := all_nb H
  unfold x_count m_count
  rw [mg0, H.day.1, H.cN, H.dN, a1, a2, (n1.ones (by decide)).1, (n2.ones (by decide)).1, drawn_eq H, t2, t3, H.z, spots_eq H]
  by_cases c0 : what = 0
  · rw [if_pos c0, if_pos c0]; exact ⟨rfl, h⟩
  · rw [if_neg c0, if_neg c0]
    by_cases c1 : what = 1
    · rw [if_pos c1, if_pos c1]; exact ⟨rfl, h⟩
    · rw [if_neg c1, if_neg c1]
      by_cases c2 : what = 2
      · rw [if_pos c2, if_pos c2]; exact ⟨rfl, h⟩
      · rw [if_neg c2, if_neg c2]
        by_cases c3 : what = 3
        · rw [if_pos c3, if_pos c3]; exact ⟨rfl, h⟩
        · rw [if_neg c3, if_neg c3]
          by_cases c4 : what = 4
          · rw [if_pos c4, if_pos c4]; exact ⟨rfl, h⟩
          · rw [if_neg c4, if_neg c4]
            by_cases c5 : what = 5
            · rw [if_pos c5, if_pos c5]; exact ⟨rfl, h⟩
            · rw [if_neg c5, if_neg c5]
              by_cases c6 : what = 6
              · rw [if_pos c6, if_pos c6]; exact ⟨rfl, h⟩
              · rw [if_neg c6, if_neg c6]
                by_cases c7 : what = 7
                · rw [if_pos c7, if_pos c7]; exact ⟨rfl, h⟩
                · rw [if_neg c7, if_neg c7]; exact ef0 h
theorem eq_status {σ μ : gM} (h : R σ μ) (which : Int32) : (x_status σ which).1 = (m_status μ which).1 ∧ R (x_status σ which).2 (m_status μ which).2 := by
  have hF := h.2.2.2.2.2.1
  have b := in_int which (-1) 6
  rw [show (-1 : Int64).toInt = -1 from rfl, show (6 : Int64).toInt = 6 from rfl] at b
  have hm : m_status_L24 μ which 7 0 0 = if 0 ≤ which then ((μ 5 (nN which)), μ) else (0 + μ 5 0 + μ 5 1 + μ 5 2 + μ 5 3 + μ 5 4 + μ 5 5 + μ 5 6, μ) := rfl
  have hx : x_status_L9 σ which 7 0 0 = (0 + σ 45 0 + σ 45 1 + σ 45 2 + σ 45 3 + σ 45 4 + σ 45 5 + σ 45 6, σ) := rfl
  unfold x_status m_status
  rw [hm, hx, hF 0 (by decide), hF 1 (by decide), hF 2 (by decide), hF 3 (by decide), hF 4 (by decide), hF 5 (by decide), hF 6 (by decide)]
  by_cases c1 : which = -1
  · subst c1
    rw [if_pos rfl, if_neg (b.mpr (by decide)), if_neg (by decide)]
    exact ⟨rfl, h⟩
  · rw [if_neg c1]
    by_cases c2 : x_isWithin which 6 = 0
    · rw [if_pos c2, if_pos (Classical.byContradiction (fun q => by
        obtain ⟨q1, q2⟩ := b.mp q
        have hne : which.toInt ≠ -1 := fun r => c1 (Int32.toInt_inj.mp r)
        exact (win_iff.mpr ⟨by omega, q2⟩) c2))]
      exact ef0 h
    · have hw := win_iff.mp c2
      obtain ⟨w, hw', rfl⟩ := wn (M := 6) (by decide) c2
      rw [if_neg c2, if_neg (b.mpr ⟨by omega, hw.2⟩), if_pos (show (0 : Int32) ≤ nI w from Int32.le_iff_toInt_le.mpr (by rw [show (0 : Int32).toInt = 0 from rfl]; exact hw.1)), nN_nI (by omega)]
      exact ⟨hF w (by omega), h⟩
theorem eq_undo {σ μ : gM} (h : R σ μ)  : (x_undo σ).1 = (m_undo μ).1 ∧ R (x_undo σ).2 (m_undo μ).2 := by
  obtain ⟨⟨K, k1, k2⟩, k3, k4⟩ := h.2.1
  unfold x_undo m_undo
  rw [k3]
  by_cases c : μ 0 0 = 0
  · rw [if_pos c, if_pos c]; exact ef3 h
  · rw [if_neg c, if_neg c]
    rcases k4 with k4 | ⟨k4, N, H⟩
    · exact absurd k4 c
    · have H1 := RC_bec (a := 0) H
      have ho : ∀ k, 12 ≤ k → (bec σ 0 12) k = σ k := fun k hk => bec_o H (by omega)
      have m1 : ∀ k, k ≠ 1 → (m_copies μ 4 1) k = μ k := fun k hk => cp_row (by decide) _ hk
      have H2 : RC (mget (bec σ 0 12) 0) ((m_copies μ 4 1) 1) N := RC_cong (fun _ _ => rfl) (fun j hj => (cp_at (by decide) _ hj).symm) H1
      rw [mg0] at H2
      have d : (bec σ 0 12) 8 1 = (m_copies μ 4 1) 1 1 := H2.day.1
      dsimp only
      refine And.intro d ?_
      exact R_parts h (Or.inl ⟨N, H2⟩) (Or.inr ⟨fun k a _ => ho k a, by rw [ho 44 (by decide)], by rw [m1 0 (by decide)], fun j _ => by rw [m1 4 (by decide)]⟩) (Or.inr ⟨by rw [ho 42 (by decide)], ho 43 (by decide), by rw [m1 0 (by decide)], m1 6 (by decide)⟩) (by rw [m1 0 (by decide)]; exact h.2.2.2.1) (Or.inr ⟨fun k a _ => ho k (by omega), m1 7 (by decide), m1 8 (by decide), m1 9 (by decide)⟩) ⟨ho 45 (by decide), m1 5 (by decide)⟩ (ho 41 (by decide))
theorem eq_image {σ μ : gM} (h : R σ μ)  : (x_image σ).1 = (m_image μ).1 ∧ R (x_image σ).2 (m_image μ).2 := by
  obtain ⟨N, H⟩ := h.1
  have H1 := RC_bec (a := 12) H
  have ho : ∀ k, ¬ (12 ≤ k ∧ k < 24) → k ≠ 44 → (mset (bec σ 12 0) 44 0 1) k = σ k := fun k hk hk2 => by
    rw [mset_ne _ _ _ hk2]
    exact bec_o H hk
  have m1 : ∀ k, k ≠ 4 → k ≠ 0 → (mset (m_copies μ 1 4) 0 0 1) k = μ k := fun k hk hk2 => by
    rw [mset_ne _ _ _ hk2]
    exact cp_row (by decide) _ hk
  have m0 : ∀ j, j ≠ 0 → (mset (m_copies μ 1 4) 0 0 1) 0 j = μ 0 j := fun j hj => by
    rw [mset_at, upd_ne _ _ hj, cp_row (by decide) _ (by decide)]
  have s : (mset (bec σ 12 0) 44 0 1) 44 0 = 1 := by rw [mset_at, upd_at]
  have m : (mset (m_copies μ 1 4) 0 0 1) 0 0 = 1 := by rw [mset_at, upd_at]
  have H2 : RC (mget (mset (bec σ 12 0) 44 0 1) 12) ((mset (m_copies μ 1 4) 0 0 1) 4) N := by
    refine RC_cong (fun k hk => ?_) (fun j hj => ?_) H1
    · show (bec σ 12 0) (12 + k) = (mset (bec σ 12 0) 44 0 1) (12 + k)
      rw [mset_ne _ _ _ (by omega)]
    · rw [mset_ne _ _ _ (by decide), cp_at (by decide) _ hj]
  have e20 : (mset (bec σ 12 0) 44 0 1) 20 0 = nI N := (congrFun (mg_8 _ 12) 0).symm.trans H2.cN
  refine ⟨rfl, ?_⟩
  show R (mset (bec σ 12 0) 44 0 1) (mset (m_copies μ 1 4) 0 0 1)
  refine R_parts h (Or.inr ⟨fun k a => ho k (by omega) (by omega), fun j _ => by rw [m1 1 (by decide) (by decide)]⟩) (Or.inl ⟨⟨N, H2.n8, e20⟩, ?_, Or.inr ⟨m, N, H2⟩⟩) (Or.inr ⟨?_, ho 43 (by omega) (by omega), m0 1 (by decide), m1 6 (by decide) (by decide)⟩) ?_ (Or.inr ⟨fun k a _ => ho k (by omega) (by omega), m1 7 (by decide) (by decide), m1 8 (by decide) (by decide), m1 9 (by decide) (by decide)⟩) ⟨ho 45 (by omega) (by omega), m1 5 (by decide) (by decide)⟩ (ho 41 (by omega) (by omega))
  · exact s.trans m.symm
  · show (mset (bec σ 12 0) 44 0 1) 42 0 = σ 42 0
    rw [ho 42 (by omega) (by omega)]
  · exact (m0 2 (by decide)).trans h.2.2.2.1
