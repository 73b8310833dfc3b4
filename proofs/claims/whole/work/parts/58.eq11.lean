/-! as told, and away: answers alike -/
theorem toldL {σ μ : gM} {N g s Z : Nat} {sn : Nat} {σ0 μ0 u1 τ0 : gM} {w most n17 i0 : Nat} {set0 : Int32} (h : R σ μ) (hg : g < N) (hs : s < 4) (hsn : sn = s) (hZ : μ 8 s = nI Z) (hl : Z ≤ 40) : ∀ (n i : Nat) (τ υ : gM), i + n = Z → TR σ μ τ υ 0 N → (x_trialGoesAsTold_L2 σ0 sn g n i τ).1 = (m_fitting_L38 μ0 sn g w most u1 n17 i0 set0 τ0 n i 1 υ).1 ∧ RB σ μ (x_trialGoesAsTold_L2 σ0 sn g n i τ).2 (m_copies (m_fitting_L38 μ0 sn g w most u1 n17 i0 set0 τ0 n i 1 υ).2 3 1) 0
  | 0, i, τ, υ, _, tr => ⟨rfl, tr.back⟩
  | n + 1, i, τ, υ, e, tr => by
    obtain ⟨a1, a2, a3, Z', a4, a5, a6⟩ := h.2.2.2.2.1 s hs
    have eZ : Z' = Z := by
      have e1 := congrArg nN (a5.symm.trans hZ)
      rw [nN_nI (by omega), nN_nI (by omega)] at e1
      exact e1
    subst eZ
    subst hsn
    have e1 : τ (48 + 2 * sn) i = υ 9 (40 * sn + i) := by
      rw [tr.1.1 _ (by omega), tr.1.2.1 9 (by decide) (by decide) (by decide) (by decide)]
      exact a6 i (by omega)
    have e2 : τ (24 + g) 3 = m_its υ g 3 := tr.2.its hg (w := 3) (by decide)
    unfold x_trialGoesAsTold_L2 m_fitting_L38
    rw [e1, e2, if_neg (show ¬ (1 : Int32) = 0 by decide)]
    by_cases c1 : υ 9 (40 * sn + i) = -1
    · rw [if_pos c1, if_pos c1]
      exact toldL h hg hs rfl hZ hl n (i + 1) _ _ (by omega) tr.day
    · rw [if_neg c1, if_neg c1]
      by_cases c2 : υ 9 (40 * sn + i) = m_its υ g 3
      · rw [if_pos c2, if_pos c2]
        exact toldL h hg hs rfl hZ hl n (i + 1) _ _ (by omega) tr.day
      · rw [if_neg c2, if_neg c2]
        have e0 : m_fitting_L38 μ0 sn g w most u1 n17 i0 set0 τ0 n (i + 1) 0 (m_dayGoes υ) = (0, m_dayGoes υ) := by
          cases n with
          | zero => rfl
          | succ n => unfold m_fitting_L38; rw [if_pos rfl]
        rw [e0]
        exact ⟨rfl, tr.day.back.frame tr.1.1⟩
theorem choL {σ μ : gM} {N g s Z w most : Nat} {sn : Int32} {σ0 u1 : gM} (h : R σ μ) (H : RC σ (μ 1) N) (hg : g < N) (hs : s < 4) (hsn : nN sn = s) (hZ : μ 8 s = nI Z) (hl : Z ≤ 40) (hw : w ≤ 6) (hm : most ≤ bnd w) : ∀ (n i : Nat) (set : Int32) (τ υ : gM), i + n = most + 1 → RB σ μ τ υ 0 → (x_choicesAsTold_L43 σ0 sn (nI g) (nI w) most n i set τ).1 = (m_fitting_L17 μ s g w most u1 n i set υ).1 ∧ R (x_choicesAsTold_L43 σ0 sn (nI g) (nI w) most n i set τ).2 (m_fitting_L17 μ s g w most u1 n i set υ).2
  | 0, i, set, τ, υ, _, b => ⟨rfl, b.R h⟩
  | n + 1, i, set, τ, υ, e, b => by
    have h8 := H.n8
    have tr := b.tries H hg hw (x := i) (by omega)
    obtain ⟨a1, a2, a3, Z', a4, a5, a6⟩ := h.2.2.2.2.1 s hs
    have z1 : nN ((x_tryOut τ g (nI w) (nI i)) (47 + 2 * s) 1) = Z := by
      rw [tr.1.1 _ (by omega), a2, hZ, nN_nI (by omega)]
    have z2 : nN (μ 8 s) = Z := by rw [hZ, nN_nI (by omega)]
    obtain ⟨t1, t2⟩ := toldL (w := w) (most := most) (n17 := n) (i0 := i) (set0 := set) (μ0 := μ) (u1 := u1) (τ0 := υ) (σ0 := x_tryOut τ g (nI w) (nI i)) h hg hs (rfl : s = s) hZ hl Z 0 _ _ (by omega) tr
    unfold x_choicesAsTold_L43 m_fitting_L17
    rw [hsn, nN_nI (n := g) (by omega), z2]
    unfold x_trialGoesAsTold
    rw [z1, t1]
    by_cases c : (m_fitting_L38 μ s g w most u1 n i set υ Z 0 1 (m_sets υ g w (nI i))).1 = 0
    · rw [if_pos c, if_pos c, Int32.or_zero]
      exact choL h H hg hs hsn hZ hl hw hm n (i + 1) _ _ _ (by omega) t2
    · rw [if_neg c, if_neg c]
      exact choL h H hg hs hsn hZ hl hw hm n (i + 1) _ _ _ (by omega) t2
theorem cho_eq {σ μ : gM} (h : R σ μ) (sn glove : Int32) {w most : Nat} (hw : w ≤ 6) (hm : most ≤ bnd w) : (x_choicesAsTold σ sn glove (nI w) most).1 = (if (m_whyNot μ sn glove) < 0 then ((m_fitting μ (nN sn) (nN glove) w most).1, (m_fitting μ (nN sn) (nN glove) w most).2) else ((m_finds μ (nN (m_whyNot μ sn glove))).1, (m_finds μ (nN (m_whyNot μ sn glove))).2)).1 ∧ R (x_choicesAsTold σ sn glove (nI w) most).2 (if (m_whyNot μ sn glove) < 0 then ((m_fitting μ (nN sn) (nN glove) w most).1, (m_fitting μ (nN sn) (nN glove) w most).2) else ((m_finds μ (nN (m_whyNot μ sn glove))).1, (m_finds μ (nN (m_whyNot μ sn glove))).2)).2 := by
  obtain ⟨N, H⟩ := h.1
  rw [mg0] at H
  have z : μ 0 2 = 0 := h.2.2.2.1
  have hi := has_iff H glove
  unfold x_choicesAsTold m_whyNot
  rw [mg0]
  rcases lack_rel h sn with ⟨e1, e2⟩ | ⟨e1, e2⟩ | ⟨e1, e2, s, hs, rfl, hne⟩
  · rw [e1, e2, if_neg (by decide), if_neg (show ¬ (0 : Int32) < 0 by decide), if_neg (show ¬ (0 : Int32) < 0 by decide)]
    exact ef0 h
  · rw [e1, e2, if_neg (by decide), if_neg (show ¬ (5 : Int32) < 0 by decide), if_neg (show ¬ (5 : Int32) < 0 by decide)]
    exact ef5 h
  · rw [e1, e2, if_pos rfl, if_pos (show (-1 : Int32) < 0 by decide)]
    by_cases c1 : x_has0 σ glove = 0
    · rw [if_pos c1, if_pos (hi.mp c1), if_neg (show ¬ (0 : Int32) < 0 by decide)]
      exact ef0 h
    · rw [if_neg c1, if_neg (fun q => c1 (hi.mpr q)), if_pos (show (-1 : Int32) < 0 by decide)]
      obtain ⟨g, hg, rfl⟩ := hasG H c1
      have h8 := H.n8
      obtain ⟨a1, a2, a3, Z, a4, a5, a6⟩ := h.2.2.2.2.1 s hs
      rw [nN_nI (n := g) (by omega), nN_nI (n := s) (by omega)]
      unfold m_fitting m_fitting_m1
      exact choL h H hg hs (nN_nI (by omega)) a5 a4 hw hm (most + 1) 0 0 _ _ (by omega) (RB_0 z)
theorem eq_fits {σ μ : gM} (h : R σ μ) (sn : Int32) (glove : Int32) : (x_fits σ sn glove).1 = (m_fits μ sn glove).1 ∧ R (x_fits σ sn glove).2 (m_fits μ sn glove).2 := cho_eq h sn glove (w := 1) (by decide) (by decide)
theorem eq_kinds {σ μ : gM} (h : R σ μ) (sn : Int32) (glove : Int32) : (x_kinds σ sn glove).1 = (m_kinds μ sn glove).1 ∧ R (x_kinds σ sn glove).2 (m_kinds μ sn glove).2 := cho_eq h sn glove (w := 0) (by decide) (by decide)
theorem RB.gone {σ μ τ υ : gM} {aw : Int32} (b : RB σ μ τ υ aw) (a : Int32) : RB σ μ τ (mset υ 0 2 a) a := by
  obtain ⟨⟨b1, b2, b3, b4, b5⟩, b6⟩ := b
  exact ⟨⟨b1, fun k h0 h1 h3 h10 => (mset_ne _ _ _ h0).trans (b2 k h0 h1 h3 h10), fun j hj => by rw [mset_at, upd_ne _ _ hj]; exact b3 j hj, by rw [mset_at, upd_at], fun j hj => by rw [mset_ne _ _ _ (by decide)]; exact b5 j hj⟩, fun j hj => by rw [mset_ne _ _ _ (by decide)]; exact b6 j hj⟩
theorem awayL {σ μ : gM} {N g t : Nat} {k : Int32} {σ0 μ0 u1 : gM} (h : R σ μ) (H : RC σ (μ 1) N) (hg : g < N) (ht : t < 32) : ∀ (n i : Nat) (best : Int32) (τ υ : gM) (aw : Int32), i + n = 2 ^ N → BS best → RB σ μ τ υ aw → (x_away_L42 σ0 (nI g) (nI t) k n i best τ).1 = (m_away_L50 μ0 (nI g) (nI t) k u1 n i best υ).1 ∧ R (x_away_L42 σ0 (nI g) (nI t) k n i best τ).2 (m_away_L50 μ0 (nI g) (nI t) k u1 n i best υ).2
  | 0, i, best, τ, υ, aw, _, hb, b => by
    have r := (b.gone 0).R h
    unfold x_away_L42 m_away_L50
    by_cases c : best = -1
    · rw [if_pos c, if_neg (hb.neg.2.mp c)]
      exact ef3 r
    · rw [if_neg c, if_pos (Classical.byContradiction (fun q => c (hb.neg.2.mpr q)))]
      exact ⟨rfl, r⟩
  | n + 1, i, best, τ, υ, aw, e, hb, b => by
    have h8 := H.n8
    have hi : i < 256 := by have := pk2_le h8; omega
    have hf := hb.fewer hi
    have hB : BS (nI i) := Or.inr ⟨i, hi, rfl⟩
    have tr := ((b.gone (nI i)).begin H).days (nN k)
    have hbi := bt_in (s := nI i) (g := g) (by omega)
    have hb1 := bt_s1 (s := nI i) (g := g) (by omega)
    have rcr : ∀ (best' : Int32) (τ' υ' : gM) (aw' : Int32), BS best' → RB σ μ τ' υ' aw' → (x_away_L42 σ0 (nI g) (nI t) k n (i + 1) best' τ').1 = (m_away_L50 μ0 (nI g) (nI t) k u1 n (i + 1) best' υ').1 ∧ R (x_away_L42 σ0 (nI g) (nI t) k n (i + 1) best' τ').2 (m_away_L50 μ0 (nI g) (nI t) k u1 n (i + 1) best' υ').2 := fun best' τ' υ' aw' q1 q2 => awayL h H hg ht n (i + 1) best' τ' υ' aw' (by omega) q1 q2
    have e2 : (x_comesToKnowWithout τ (nI i) g (nI t) (nN k)).1 = x_isIn (nI t) (m_its (m_daysGo (mset υ 0 2 (nI i)) (nN k)) g 3 ||| m_its (m_daysGo (mset υ 0 2 (nI i)) (nN k)) g 5) := by
      show x_isIn (nI t) ((mput (bec τ 24 0) 24 12 (x_passDays0 (mget (bec τ 24 0) 24) (nN k) (nI i))) (24 + g) 3 ||| (mput (bec τ 24 0) 24 12 (x_passDays0 (mget (bec τ 24 0) 24) (nN k) (nI i))) (24 + g) 5) = _
      rw [← tr.2.its hg (w := 3) (by decide), ← tr.2.its hg (w := 5) (by decide)]
      rfl
    have hk := bt_in (s := m_its (m_daysGo (mset υ 0 2 (nI i)) (nN k)) g 3 ||| m_its (m_daysGo (mset υ 0 2 (nI i)) (nN k)) g 5) ht
    have hk1 := bt_s1 (s := m_its (m_daysGo (mset υ 0 2 (nI i)) (nN k)) g 3 ||| m_its (m_daysGo (mset υ 0 2 (nI i)) (nN k)) g 5) ht
    unfold x_away_L42 m_away_L50
    rw [nN_nI (n := g) (by omega), e2]
    by_cases c1 : bt (nI i) g = true
    · rw [if_pos (hb1.mpr c1), if_neg (show ¬ x_isIn (nI g) (nI i) = 0 from fun q => by rw [hbi.mp q] at c1; exact absurd c1 (by decide))]
      split
      · exact rcr _ _ _ _ hb b
      · exact rcr _ _ _ _ hb b
    · have c1' : bt (nI i) g = false := by cases hv : bt (nI i) g; rfl; exact absurd hv c1
      rw [if_neg (fun q => c1 (hb1.mp q)), if_pos (hbi.mpr c1')]
      have go : ∀ (A B : Int32 × gM), A = (if x_isIn (nI t) (m_its (m_daysGo (mset υ 0 2 (nI i)) (nN k)) g 3 ||| m_its (m_daysGo (mset υ 0 2 (nI i)) (nN k)) g 5) = 0 then x_away_L42 σ0 (nI g) (nI t) k n (i + 1) best (x_comesToKnowWithout τ (nI i) g (nI t) (nN k)).2 else x_away_L42 σ0 (nI g) (nI t) k n (i + 1) (nI i) (x_comesToKnowWithout τ (nI i) g (nI t) (nN k)).2) → B = (if jshr (m_its (m_daysGo (mset υ 0 2 (nI i)) (nN k)) g 3 ||| m_its (m_daysGo (mset υ 0 2 (nI i)) (nN k)) g 5) (nI t) &&& 1 = 1 then m_away_L50 μ0 (nI g) (nI t) k u1 n (i + 1) (nI i) (m_copies (m_daysGo (mset υ 0 2 (nI i)) (nN k)) 3 1) else m_away_L50 μ0 (nI g) (nI t) k u1 n (i + 1) best (m_copies (m_daysGo (mset υ 0 2 (nI i)) (nN k)) 3 1)) → A.1 = B.1 ∧ R A.2 B.2 := by
        rintro A B rfl rfl
        by_cases c : x_isIn (nI t) (m_its (m_daysGo (mset υ 0 2 (nI i)) (nN k)) g 3 ||| m_its (m_daysGo (mset υ 0 2 (nI i)) (nN k)) g 5) = 0
        · rw [if_pos c, if_neg (fun q => by rw [hk.mp c] at hk1; exact absurd (hk1.mp q) (by decide))]
          exact rcr _ _ _ _ hb tr.back
        · rw [if_neg c, if_pos (hk1.mpr (by cases hv : bt (m_its (m_daysGo (mset υ 0 2 (nI i)) (nN k)) g 3 ||| m_its (m_daysGo (mset υ 0 2 (nI i)) (nN k)) g 5) t; exact absurd (hk.mpr hv) c; rfl))]
          exact rcr _ _ _ _ hB tr.back
      by_cases c2 : x_isFewer (nI i) best = 0
      · have q := hf.mp c2
        rw [if_pos c2, if_neg q.1, if_neg (fun r => Int32.not_lt.mpr q.2 r)]
        exact rcr _ _ _ _ hb b
      · rw [if_neg c2]
        by_cases c3 : best < 0
        · rw [if_pos c3]
          exact go _ _ rfl rfl
        · rw [if_neg c3, if_pos (Int32.not_le.mp (fun q => c2 (hf.mpr ⟨c3, q⟩)))]
          exact go _ _ rfl rfl
theorem eq_away {σ μ : gM} (h : R σ μ) (glove : Int32) (topic : Int32) (k : Int32) : (x_away σ glove topic k).1 = (m_away μ glove topic k).1 ∧ R (x_away σ glove topic k).2 (m_away μ glove topic k).2 := by
  obtain ⟨N, H⟩ := h.1
  rw [mg0] at H
  have z : μ 0 2 = 0 := h.2.2.2.1
  have hi := has_iff H glove
  unfold x_away m_away
  rw [mg0]
  by_cases c1 : x_has0 σ glove = 0
  · rw [if_pos c1, if_pos (hi.mp c1)]
    exact ef0 h
  · rw [if_neg c1, if_neg (fun q => c1 (hi.mpr q))]
    obtain ⟨g, hg, rfl⟩ := hasG H c1
    by_cases c2 : x_isWithin topic 15 = 0
    · rw [if_pos c2, if_pos (show m_isTopic topic = 0 from (win rfl).mp c2)]
      exact ef0 h
    · rw [if_neg c2, if_neg (show ¬ m_isTopic topic = 0 from win_n rfl c2)]
      obtain ⟨t, ht, rfl⟩ := wn (M := 15) (by decide) c2
      by_cases c3 : x_isWithin k 20 = 0
      · rw [if_pos c3, if_pos ((win (M := 20) rfl).mp c3)]
        exact ef0 h
      · rw [if_neg c3, if_neg (win_n (M := 20) rfl c3), H.cn]
        unfold m_away_m1
        rw [H.dn]
        exact awayL h H hg (by omega) _ 0 (-1) _ _ 0 (by omega) (Or.inl rfl) (RB_0 z)
