/-! trials: the class's club on trial, the reference's own row and the row aside -/
def SR (σ μ τ υ : gM) (aw : Int32) : Prop := (∀ k, (k < 24 ∨ 36 ≤ k) → τ k = σ k) ∧ (∀ k, k ≠ 0 → k ≠ 1 → k ≠ 3 → k ≠ 10 → υ k = μ k) ∧ (∀ j, j ≠ 2 → υ 0 j = μ 0 j) ∧ υ 0 2 = aw ∧ ∀ j, j < 75 → υ 3 j = μ 1 j
def TR (σ μ τ υ : gM) (aw : Int32) (N : Nat) : Prop := SR σ μ τ υ aw ∧ RC (mget τ 24) (υ 1) N
def RB (σ μ τ υ : gM) (aw : Int32) : Prop := SR σ μ τ υ aw ∧ ∀ j, j < 75 → υ 1 j = μ 1 j
theorem RB.R {σ μ τ υ : gM} (h : R σ μ) (b : RB σ μ τ υ 0) : R τ υ := by
  obtain ⟨⟨b1, b2, b3, b4, b5⟩, b6⟩ := b
  have m : ∀ k, 4 ≤ k → k < 10 → υ k = μ k := fun k h1 h2 => b2 k (by omega) (by omega) (by omega) (by omega)
  exact R_parts h (Or.inr ⟨fun k hk => b1 k (by omega), b6⟩) (Or.inr ⟨fun k _ hk => b1 k (by omega), by rw [b1 44 (by omega)], b3 0 (by decide), fun j _ => by rw [m 4 (by decide) (by decide)]⟩) (Or.inr ⟨by rw [b1 42 (by omega)], b1 43 (by omega), b3 1 (by decide), m 6 (by decide) (by decide)⟩) b4 (Or.inr ⟨fun k hk _ => b1 k (by omega), m 7 (by decide) (by decide), m 8 (by decide) (by decide), m 9 (by decide) (by decide)⟩) ⟨b1 45 (by omega), m 5 (by decide) (by decide)⟩ (b1 41 (by omega))
theorem RB_0 {σ μ : gM} (z : μ 0 2 = 0) : RB σ μ σ (m_copies μ 1 3) 0 := by
  have m : ∀ k, k ≠ 3 → (m_copies μ 1 3) k = μ k := fun k hk => cp_row (by decide) _ hk
  exact ⟨⟨fun _ _ => rfl, fun k _ _ h3 _ => m k h3, fun j _ => by rw [m 0 (by decide)], by rw [m 0 (by decide)]; exact z, fun j hj => cp_at (by decide) _ hj⟩, fun j _ => by rw [m 1 (by decide)]⟩
theorem TR.back {σ μ τ υ : gM} {aw : Int32} {N : Nat} (t : TR σ μ τ υ aw N) : RB σ μ τ (m_copies υ 3 1) aw := by
  obtain ⟨⟨b1, b2, b3, b4, b5⟩, b6⟩ := t
  have m : ∀ k, k ≠ 1 → (m_copies υ 3 1) k = υ k := fun k hk => cp_row (by decide) _ hk
  exact ⟨⟨b1, fun k h0 h1 h3 h10 => (m k h1).trans (b2 k h0 h1 h3 h10), fun j hj => by rw [m 0 (by decide)]; exact b3 j hj, by rw [m 0 (by decide)]; exact b4, fun j hj => by rw [m 3 (by decide)]; exact b5 j hj⟩, fun j hj => (cp_at (by decide) _ hj).trans (b5 j hj)⟩
theorem mg24 {τ ρ : gM} : ∀ k, k < 12 → mget (mput τ 24 12 ρ) 24 k = ρ k := fun k hk => mput_in τ ρ hk
theorem RB.club {σ μ τ υ : gM} {aw : Int32} {N : Nat} (b : RB σ μ τ υ aw) (H : RC σ (μ 1) N) : RC (mget τ 0) (υ 1) N := by
  rw [mg0]
  exact RC_cong (fun k hk => (b.1.1 k (by omega)).symm) (fun j hj => (b.2 j hj).symm) H
/-- the trial begins -/
theorem RB.begin {σ μ τ υ : gM} {aw : Int32} {N : Nat} (b : RB σ μ τ υ aw) (H : RC σ (μ 1) N) : TR σ μ (bec τ 24 0) υ aw N := by
  have Hc := b.club H
  obtain ⟨⟨b1, b2⟩, b6⟩ := b
  exact ⟨⟨fun k hk => (bec_o Hc (by omega)).trans (b1 k hk), b2⟩, RC_bec Hc⟩
theorem TR.put {σ μ τ υ υ' ρ : gM} {aw : Int32} {N : Nat} (t : TR σ μ τ υ aw N) (hυ : ∀ k, k ≠ 1 → υ' k = υ k) (H : RC ρ (υ' 1) N) : TR σ μ (mput τ 24 12 ρ) υ' aw N := by
  obtain ⟨⟨b1, b2, b3, b4, b5⟩, b6⟩ := t
  exact ⟨⟨fun k hk => (mput_out _ _ (by omega)).trans (b1 k hk), fun k h0 h1 h3 h10 => (hυ k h1).trans (b2 k h0 h1 h3 h10), fun j hj => by rw [hυ 0 (by decide)]; exact b3 j hj, by rw [hυ 0 (by decide)]; exact b4, fun j hj => by rw [hυ 3 (by decide)]; exact b5 j hj⟩, RC_cong (fun k hk => (mg24 k hk).symm) (fun _ _ => rfl) H⟩
theorem TR.days {σ μ τ υ : gM} {aw : Int32} {N : Nat} (t : TR σ μ τ υ aw N) (k : Nat) : TR σ μ (mput τ 24 12 (x_passDays0 (mget τ 24) k aw)) (m_daysGo υ k) aw N := by
  have hd := days_rel t.2 k
  rw [t.1.2.2.2.1] at hd
  exact t.put (fun j hj => dys_row _ _ hj) hd
theorem TR.day {σ μ τ υ : gM} {aw : Int32} {N : Nat} (t : TR σ μ τ υ aw N) : TR σ μ (mput τ 24 12 (x_passDay0 (mget τ 24) aw)) (m_dayGoes υ) aw N := by
  have hd := day_rel t.2
  rw [t.1.2.2.2.1] at hd
  exact t.put (fun j hj => dg_row _ hj) hd
theorem RB.tries {σ μ τ υ : gM} {aw : Int32} {N g w x : Nat} (b : RB σ μ τ υ aw) (H : RC σ (μ 1) N) (hg : g < N) (hw : w ≤ 6) (hx : x ≤ bnd w) : TR σ μ (x_tryOut τ g (nI w) (nI x)) (m_sets υ g w (nI x)) aw N := by
  have h8 := H.n8
  have t := b.begin H
  obtain ⟨⟨b1, b2, b3, b4, b5⟩, b6⟩ := t
  unfold x_tryOut x_tryOut_m1
  refine ⟨⟨fun k hk => (mput_out _ _ (by omega)).trans (b1 k hk), fun k h0 h1 h3 h10 => (sets_row h1).trans (b2 k h0 h1 h3 h10), fun j hj => by rw [sets_row (by decide)]; exact b3 j hj, by rw [sets_row (by decide)]; exact b4, fun j hj => by rw [sets_row (by decide)]; exact b5 j hj⟩, ?_⟩
  refine b6.glove hg (fun k hk => ?_) (fun j hj => sets_ne (by omega)) ?_ (fun g' hg' hne => (b6.gr hg').other (by omega) (by omega) hne)
  · show (mput (bec τ 24 0) (24 + g) 1 _) (24 + k) = (bec τ 24 0) (24 + k)
    rw [mput1, if_neg (by omega)]
  · have e : (mget (mput (bec τ 24 0) (24 + g) 1 (x_setTrait1 (mget (bec τ 24 0) (24 + g)) (nI w) (nI x))) 24) g = upd ((mget (bec τ 24 0) 24) g) w (nI x) := by
      show (mput (bec τ 24 0) (24 + g) 1 (x_setTrait1 (mget (bec τ 24 0) (24 + g)) (nI w) (nI x))) (24 + g) = _
      rw [mput1, if_pos rfl, setTrait_form _ hw]
      rfl
    rw [e]
    exact (b6.gr hg).set (by omega) ⟨x, hx, rfl⟩
theorem ask_v : ∀ w, w ≤ 6 → (x_canBeAskedAhead (nI w) = 0 ↔ (w = 0 ∨ w = 2)) := by decide +kernel
theorem eq_ahead {σ μ : gM} (h : R σ μ) (glove : Int32) (what : Int32) (k : Int32) : (x_ahead σ glove what k).1 = (m_ahead μ glove what k).1 ∧ R (x_ahead σ glove what k).2 (m_ahead μ glove what k).2 := by
  obtain ⟨N, H⟩ := h.1
  rw [mg0] at H
  have z : μ 0 2 = 0 := h.2.2.2.1
  have hi := has_iff H glove
  have b := in_int what 1 6
  rw [show (1 : Int64).toInt = 1 from rfl, show (6 : Int64).toInt = 6 from rfl] at b
  unfold x_ahead m_ahead
  rw [mg0]
  by_cases c1 : x_has0 σ glove = 0
  · rw [if_pos c1, if_pos (hi.mp c1)]
    exact ef0 h
  · rw [if_neg c1, if_neg (fun q => c1 (hi.mpr q))]
    obtain ⟨g, hg, rfl⟩ := hasG H c1
    have h8 := H.n8
    by_cases c2 : x_isWithin what 6 = 0
    · have e : x_canBeAskedAhead what = 0 := by
        unfold x_canBeAskedAhead
        rw [if_neg (show ¬ what = 1 from wz (M := 6) (p := 1) (by decide) c2 (by decide)), if_pos c2]
      rw [if_pos e, if_pos (Classical.byContradiction (fun q => by
        obtain ⟨q1, q2⟩ := b.mp q
        exact (win_iff.mpr ⟨by omega, q2⟩) c2))]
      exact ef0 h
    · obtain ⟨w, hw, rfl⟩ := wn (M := 6) (by decide) c2
      have ha := ask_v w hw
      rw [nI_toInt (by omega)] at b
      by_cases c3 : w = 0
      · rw [if_pos (ha.mpr (Or.inl c3)), if_pos (Classical.byContradiction (fun q => by have := b.mp q; omega))]
        exact ef0 h
      · rw [if_neg (show ¬ m_in (nI w).toInt64 1 6 = 0 from b.mpr ⟨by omega, by omega⟩)]
        by_cases c4 : w = 2
        · rw [if_pos (ha.mpr (Or.inr c4)), if_pos (show nI w = 2 by rw [c4]; rfl)]
          exact ef0 h
        · rw [if_neg (fun q => by rcases ha.mp q with q | q <;> omega), if_neg (show ¬ nI w = 2 from fun q => c4 ((nI_eq (b := 2) (by omega) (by decide)).mp q))]
          by_cases c5 : x_isWithin k 100 = 0
          · rw [if_pos c5, if_pos ((win (M := 100) rfl).mp c5)]
            exact ef0 h
          · rw [if_neg c5, if_neg (win_n (M := 100) rfl c5)]
            have t := ((RB_0 (σ := σ) z).begin H).days (nN k)
            unfold x_ahead_m1 m_ahead_m1
            refine ⟨?_, t.back.R h⟩
            show x_trait1 (mget (mput (bec σ 24 0) 24 12 (x_passDays0 (mget (bec σ 24 0) 24) (nN k) 0)) (24 + nN (nI g))) (nI w) = (m_daysGo (m_copies μ 1 3) (nN k)) 1 (9 + 8 * nN (nI w) + nN (nI g))
            rw [trait_form _ hw, nN_nI (by omega), nN_nI (by omega)]
            exact t.2.its hg (by omega)
