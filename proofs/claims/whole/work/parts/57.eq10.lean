/-! days until: answers alike -/
theorem RB.frame {σ μ τ τ' υ : gM} {aw : Int32} (b : RB σ μ τ υ aw) (f : ∀ k, (k < 24 ∨ 36 ≤ k) → τ' k = σ k) : RB σ μ τ' υ aw := ⟨⟨f, b.1.2⟩, b.2⟩
theorem hearsL {σ μ : gM} {N g t : Nat} {σ0 s1 μ0 u1 : gM} (h : R σ μ) (hg : g < N) (ht : t < 32) : ∀ (n i : Nat) (τ υ : gM), TR σ μ τ υ 0 N → (x_daysUntil_L14 σ0 0 g (nI t) s1 (n + 1) i τ).1 = (m_hears_L34 μ0 (nI g) (nI t) u1 n i υ).1 ∧ R (x_daysUntil_L14 σ0 0 g (nI t) s1 (n + 1) i τ).2 (m_hears_L34 μ0 (nI g) (nI t) u1 n i υ).2
  | 0, i, τ, υ, tr => by
    have h8 := tr.2.n8
    have e : x_isSoInTrial τ 0 g (nI t) = x_isIn (nI t) (m_its υ g 3) := by
      unfold x_isSoInTrial
      rw [if_pos rfl, show τ (24 + g) 3 = m_its υ g 3 from tr.2.its hg (w := 3) (by decide)]
    have hb := bt_in (s := m_its υ g 3) ht
    have h1 := bt_s1 (s := m_its υ g 3) ht
    unfold x_daysUntil_L14 m_hears_L34
    rw [e, nN_nI (by omega)]
    by_cases c : x_isIn (nI t) (m_its υ g 3) = 0
    · rw [if_pos c, if_neg (fun q => by rw [hb.mp c] at h1; exact absurd (h1.mp q) (by decide))]
      exact ef3 ((tr.back.frame tr.day.1.1).R h)
    · rw [if_neg c, if_pos (h1.mpr (by cases hv : bt (m_its υ g 3) t; exact absurd (hb.mpr hv) c; rfl))]
      exact ⟨rfl, tr.back.R h⟩
  | n + 1, i, τ, υ, tr => by
    have h8 := tr.2.n8
    have e : x_isSoInTrial τ 0 g (nI t) = x_isIn (nI t) (m_its υ g 3) := by
      unfold x_isSoInTrial
      rw [if_pos rfl, show τ (24 + g) 3 = m_its υ g 3 from tr.2.its hg (w := 3) (by decide)]
    have hb := bt_in (s := m_its υ g 3) ht
    have h0 := bt_s0 (s := m_its υ g 3) ht
    have h1 := bt_s1 (s := m_its υ g 3) ht
    unfold x_daysUntil_L14 m_hears_L34
    rw [e, nN_nI (by omega)]
    by_cases c : x_isIn (nI t) (m_its υ g 3) = 0
    · rw [if_pos c, if_pos (h0.mpr (hb.mp c))]
      exact hearsL h hg ht n (i + 1) _ _ tr.day
    · rw [if_neg c, if_neg (fun q => c (hb.mpr (h0.mp q))), if_pos (h1.mpr (by cases hv : bt (m_its υ g 3) t; exact absurd (hb.mpr hv) c; rfl))]
      exact ⟨rfl, tr.back.R h⟩
theorem eq_hears {σ μ : gM} (h : R σ μ) (glove : Int32) (v : Int32) : (x_hears σ glove v).1 = (m_hears μ glove v).1 ∧ R (x_hears σ glove v).2 (m_hears μ glove v).2 := by
  obtain ⟨N, H⟩ := h.1
  rw [mg0] at H
  have z : μ 0 2 = 0 := h.2.2.2.1
  have hi := has_iff H glove
  unfold x_hears m_hears
  rw [mg0]
  by_cases c1 : x_has0 σ glove = 0
  · rw [if_pos c1, if_pos (hi.mp c1)]
    exact ef0 h
  · rw [if_neg c1, if_neg (fun q => c1 (hi.mpr q))]
    obtain ⟨g, hg, rfl⟩ := hasG H c1
    have h8 := H.n8
    by_cases c2 : x_isWithin v 15 = 0
    · rw [if_pos c2, if_pos (show m_isTopic v = 0 from (win rfl).mp c2)]
      exact ef0 h
    · rw [if_neg c2, if_neg (show ¬ m_isTopic v = 0 from win_n rfl c2)]
      obtain ⟨t, ht, rfl⟩ := wn (M := 15) (by decide) c2
      rw [nN_nI (by omega)]
      unfold x_daysUntil x_daysUntil_m1 m_hears_m1
      exact hearsL h hg (by omega) 200 0 _ _ ((RB_0 (σ := σ) z).begin H)
theorem wiserL {σ μ : gM} {N g : Nat} {v : Int32} {σ0 s1 μ0 u1 : gM} (h : R σ μ) (hg : g < N) : ∀ (n i : Nat) (τ υ : gM), TR σ μ τ υ 0 N → (x_daysUntil_L14 σ0 1 g v s1 (n + 1) i τ).1 = (m_wise_L39 μ0 (nI g) v u1 n i υ).1 ∧ R (x_daysUntil_L14 σ0 1 g v s1 (n + 1) i τ).2 (m_wise_L39 μ0 (nI g) v u1 n i υ).2
  | 0, i, τ, υ, tr => by
    have h8 := tr.2.n8
    have e : x_isSoInTrial τ 1 g v = if m_ones (m_its υ g 5) < v then 0 else 1 := by
      unfold x_isSoInTrial
      rw [if_neg (by decide), if_pos rfl, (hand_ones tr.2 hg).1]
    unfold x_daysUntil_L14 m_wise_L39
    rw [e, nN_nI (by omega)]
    by_cases c : m_ones (m_its υ g 5) < v
    · rw [if_pos c, if_pos c, if_pos rfl]
      exact ef3 ((tr.back.frame tr.day.1.1).R h)
    · rw [if_neg c, if_neg c, if_neg (by decide)]
      exact ⟨rfl, tr.back.R h⟩
  | n + 1, i, τ, υ, tr => by
    have h8 := tr.2.n8
    have e : x_isSoInTrial τ 1 g v = if m_ones (m_its υ g 5) < v then 0 else 1 := by
      unfold x_isSoInTrial
      rw [if_neg (by decide), if_pos rfl, (hand_ones tr.2 hg).1]
    unfold x_daysUntil_L14 m_wise_L39
    rw [e, nN_nI (by omega)]
    by_cases c : m_ones (m_its υ g 5) < v
    · rw [if_pos c, if_pos rfl, if_neg (fun q => Int32.not_lt.mpr q c)]
      exact wiserL h hg n (i + 1) _ _ tr.day
    · rw [if_neg c, if_neg (by decide), if_pos (Int32.not_lt.mp c), if_neg c]
      exact ⟨rfl, tr.back.R h⟩
theorem eq_wise {σ μ : gM} (h : R σ μ) (glove : Int32) (v : Int32) : (x_wise σ glove v).1 = (m_wise μ glove v).1 ∧ R (x_wise σ glove v).2 (m_wise μ glove v).2 := by
  obtain ⟨N, H⟩ := h.1
  rw [mg0] at H
  have z : μ 0 2 = 0 := h.2.2.2.1
  have hi := has_iff H glove
  unfold x_wise m_wise
  rw [mg0]
  by_cases c1 : x_has0 σ glove = 0
  · rw [if_pos c1, if_pos (hi.mp c1)]
    exact ef0 h
  · rw [if_neg c1, if_neg (fun q => c1 (hi.mpr q))]
    obtain ⟨g, hg, rfl⟩ := hasG H c1
    have h8 := H.n8
    by_cases c2 : x_isWithin v 16 = 0
    · rw [if_pos c2, if_pos ((win (M := 16) rfl).mp c2)]
      exact ef0 h
    · rw [if_neg c2, if_neg (win_n (M := 16) rfl c2), nN_nI (by omega)]
      unfold x_daysUntil x_daysUntil_m1 m_wise_m1
      exact wiserL h hg 200 0 _ _ ((RB_0 (σ := σ) z).begin H)
theorem outL {σ μ : gM} {N : Nat} {v : Int32} {σ0 s1 μ0 u1 : gM} (h : R σ μ) : ∀ (n i : Nat) (τ υ : gM), TR σ μ τ υ 0 N → (x_daysUntil_L14 σ0 2 0 v s1 (n + 1) i τ).1 = (m_out_L26 μ0 v u1 n i υ).1 ∧ R (x_daysUntil_L14 σ0 2 0 v s1 (n + 1) i τ).2 (m_out_L26 μ0 v u1 n i υ).2
  | 0, i, τ, υ, tr => by
    have e : x_isSoInTrial τ 2 0 v = m_areKnown υ v := by
      unfold x_isSoInTrial m_areKnown
      rw [if_neg (by decide), if_neg (by decide), (all_eq tr.2).2.2]
    unfold x_daysUntil_L14 m_out_L26
    rw [e]
    by_cases c : m_areKnown υ v = 0
    · rw [if_pos c, if_pos c]
      exact ef3 ((tr.back.frame tr.day.1.1).R h)
    · rw [if_neg c, if_neg c]
      exact ⟨rfl, tr.back.R h⟩
  | n + 1, i, τ, υ, tr => by
    have e : x_isSoInTrial τ 2 0 v = m_areKnown υ v := by
      unfold x_isSoInTrial m_areKnown
      rw [if_neg (by decide), if_neg (by decide), (all_eq tr.2).2.2]
    unfold x_daysUntil_L14 m_out_L26
    rw [e]
    by_cases c : m_areKnown υ v = 0
    · rw [if_pos c, if_pos c]
      exact outL h n (i + 1) _ _ tr.day
    · rw [if_neg c, if_neg c, if_neg c]
      exact ⟨rfl, tr.back.R h⟩
theorem eq_out {σ μ : gM} (h : R σ μ) (topics : Int32) : (x_out σ topics).1 = (m_out μ topics).1 ∧ R (x_out σ topics).2 (m_out μ topics).2 := by
  obtain ⟨N, H⟩ := h.1
  rw [mg0] at H
  have z : μ 0 2 = 0 := h.2.2.2.1
  unfold x_out m_out
  by_cases c1 : x_isWithin topics 65535 = 0
  · rw [if_pos c1, if_pos (show m_areTopics topics = 0 from (win rfl).mp c1)]
    exact ef0 h
  · rw [if_neg c1, if_neg (show ¬ m_areTopics topics = 0 from win_n rfl c1)]
    unfold x_daysUntil x_daysUntil_m1 m_out_m1
    exact outL h 200 0 _ _ ((RB_0 (σ := σ) z).begin H)
/-! best of the choices -/
theorem bestL {σ μ : gM} {N g w most k : Nat} {σ0 μ0 u1 : gM} (h : R σ μ) (H : RC σ (μ 1) N) (hg : g < N) (hw : w ≤ 6) (hm : most ≤ bnd w) : ∀ (n i : Nat) (best top : Int32) (τ υ : gM), i + n = most + 1 → RB σ μ τ υ 0 → (x_bestFor_L9 σ0 g (nI w) most k n i best top τ).1 = (m_bestOf_L20 μ0 g w most k u1 n i best top υ).1 ∧ R (x_bestFor_L9 σ0 g (nI w) most k n i best top τ).2 (m_bestOf_L20 μ0 g w most k u1 n i best top υ).2
  | 0, i, best, top, τ, υ, _, b => ⟨rfl, b.R h⟩
  | n + 1, i, best, top, τ, υ, e, b => by
    have tr := (b.tries H hg hw (x := i) (by omega)).days k
    have hv : x_topicsInHand0 (mget (mput (x_tryOut τ g (nI w) (nI i)) 24 12 (x_passDays0 (mget (x_tryOut τ g (nI w) (nI i)) 24) k 0)) 24) g = m_ones (m_behind (m_sets υ g w (nI i)) k (49 + g)).1 := (hand_ones tr.2 hg).1
    unfold x_bestFor_L9 m_bestOf_L20
    rw [hv]
    by_cases c : m_ones (m_behind (m_sets υ g w (nI i)) k (49 + g)).1 ≤ top
    · rw [if_pos c, if_pos c]
      exact bestL h H hg hw hm n (i + 1) _ _ _ _ (by omega) tr.back
    · rw [if_neg c, if_neg c]
      exact bestL h H hg hw hm n (i + 1) _ _ _ _ (by omega) tr.back
theorem best_eq {σ μ : gM} {g w most k : Nat} (h : R σ μ) {N : Nat} (H : RC σ (μ 1) N) (hg : g < N) (hw : w ≤ 6) (hm : most ≤ bnd w) : (x_bestFor σ g (nI w) most k).1 = (m_bestOf μ g w most k).1 ∧ R (x_bestFor σ g (nI w) most k).2 (m_bestOf μ g w most k).2 := by
  have z : μ 0 2 = 0 := h.2.2.2.1
  unfold x_bestFor m_bestOf m_bestOf_m1
  exact bestL h H hg hw hm (most + 1) 0 0 (-1) _ _ (by omega) (RB_0 z)
theorem eq_leave {σ μ : gM} (h : R σ μ) (glove : Int32) (k : Int32) : (x_leave σ glove k).1 = (m_leave μ glove k).1 ∧ R (x_leave σ glove k).2 (m_leave μ glove k).2 := by
  obtain ⟨N, H⟩ := h.1
  rw [mg0] at H
  have hi := has_iff H glove
  unfold x_leave m_leave
  rw [mg0]
  by_cases c1 : x_has0 σ glove = 0
  · rw [if_pos c1, if_pos (hi.mp c1)]
    exact ef0 h
  · rw [if_neg c1, if_neg (fun q => c1 (hi.mpr q))]
    obtain ⟨g, hg, rfl⟩ := hasG H c1
    have h8 := H.n8
    by_cases c2 : x_isWithin k 60 = 0
    · rw [if_pos c2, if_pos ((win (M := 60) rfl).mp c2)]
      exact ef0 h
    · rw [if_neg c2, if_neg (win_n (M := 60) rfl c2), nN_nI (n := g) (by omega)]
      exact best_eq h H hg (w := 1) (by decide) (by decide)
theorem eq_kindFor {σ μ : gM} (h : R σ μ) (glove : Int32) (k : Int32) : (x_kindFor σ glove k).1 = (m_kindFor μ glove k).1 ∧ R (x_kindFor σ glove k).2 (m_kindFor μ glove k).2 := by
  obtain ⟨N, H⟩ := h.1
  rw [mg0] at H
  have hi := has_iff H glove
  unfold x_kindFor m_kindFor
  rw [mg0]
  by_cases c1 : x_has0 σ glove = 0
  · rw [if_pos c1, if_pos (hi.mp c1)]
    exact ef0 h
  · rw [if_neg c1, if_neg (fun q => c1 (hi.mpr q))]
    obtain ⟨g, hg, rfl⟩ := hasG H c1
    have h8 := H.n8
    by_cases c2 : x_isWithin k 60 = 0
    · rw [if_pos c2, if_pos ((win (M := 60) rfl).mp c2)]
      exact ef0 h
    · rw [if_neg c2, if_neg (win_n (M := 60) rfl c2), nN_nI (n := g) (by omega)]
      exact best_eq h H hg (w := 0) (by decide) (by decide)
theorem openL {σ μ : gM} {N g : Nat} {v k : Int32} {σ0 μ0 u1 : gM} (h : R σ μ) (H : RC σ (μ 1) N) (hg : g < N) : ∀ (n i : Nat) (τ υ : gM), i + n = 10 → RB σ μ τ υ 0 → (x_openFor_L39 σ0 (nI g) v k n i τ).1 = (m_openFor_L52 μ0 (nI g) v k u1 n i υ).1 ∧ R (x_openFor_L39 σ0 (nI g) v k n i τ).2 (m_openFor_L52 μ0 (nI g) v k u1 n i υ).2
  | 0, i, τ, υ, _, b => ef3 (b.R h)
  | n + 1, i, τ, υ, e, b => by
    have h8 := H.n8
    have tr := (b.tries H hg (w := 2) (by decide) (x := i) (show i ≤ 9 by omega)).days (nN k)
    have hv : x_topicsInHand0 (mget (mput (x_tryOut τ g (nI 2) (nI i)) 24 12 (x_passDays0 (mget (x_tryOut τ g (nI 2) (nI i)) 24) (nN k) 0)) 24) g = m_ones (m_behind (m_sets υ g 2 (nI i)) (nN k) (49 + g)).1 := (hand_ones tr.2 hg).1
    unfold x_openFor_L39 m_openFor_L52
    rw [nN_nI (n := g) (by omega), show (2 : Int32) = nI 2 from rfl, hv]
    by_cases c : m_ones (m_behind (m_sets υ g 2 (nI i)) (nN k) (49 + g)).1 < v
    · rw [if_pos c, if_pos c]
      exact openL h H hg n (i + 1) _ _ (by omega) tr.back
    · rw [if_neg c, if_neg c]
      exact ⟨rfl, tr.back.R h⟩
theorem eq_openFor {σ μ : gM} (h : R σ μ) (glove : Int32) (v : Int32) (k : Int32) : (x_openFor σ glove v k).1 = (m_openFor μ glove v k).1 ∧ R (x_openFor σ glove v k).2 (m_openFor μ glove v k).2 := by
  obtain ⟨N, H⟩ := h.1
  rw [mg0] at H
  have z : μ 0 2 = 0 := h.2.2.2.1
  have hi := has_iff H glove
  unfold x_openFor m_openFor
  rw [mg0]
  by_cases c1 : x_has0 σ glove = 0
  · rw [if_pos c1, if_pos (hi.mp c1)]
    exact ef0 h
  · rw [if_neg c1, if_neg (fun q => c1 (hi.mpr q))]
    obtain ⟨g, hg, rfl⟩ := hasG H c1
    by_cases c3 : x_isWithin v 16 = 0
    · rw [if_pos c3, if_pos ((win (M := 16) rfl).mp c3)]
      exact ef0 h
    · rw [if_neg c3, if_neg (win_n (M := 16) rfl c3)]
      by_cases c2 : x_isWithin k 60 = 0
      · rw [if_pos c2, if_pos ((win (M := 60) rfl).mp c2)]
        exact ef0 h
      · rw [if_neg c2, if_neg (win_n (M := 60) rfl c2)]
        unfold m_openFor_m1
        exact openL h H hg 10 0 _ _ rfl (RB_0 z)
