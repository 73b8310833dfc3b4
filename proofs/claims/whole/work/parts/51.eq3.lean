/-! gloves: answers alike -/
theorem needOf_eq {c μ : gM} {N : Nat} (H : RC c (μ 1) N) (z : μ 0 2 = 0) {g : Nat} (hg : g < N) : x_needOf0 c g = m_needs μ g := by
  have hc := comp_iff H hg
  rw [z] at hc
  unfold x_needOf0
  by_cases q : (x_lyingIn0 c (c g 1) 0 &&& (jshl 1 (nI g) ^^^ (-1))) = 0
  · rw [if_pos q]
    exact needs_eq H hg ⟨fun _ => hc.mp q, fun _ => rfl⟩
  · rw [if_neg q]
    exact needs_eq H hg ⟨fun r => absurd r (by decide), fun r => absurd (hc.mpr r) q⟩
theorem stays_eq {c μ : gM} {N : Nat} (H : RC c (μ 1) N) {g : Nat} (hg : g < N) : x_stays1 (mget c g) = m_stays μ g := by
  rw [stays_is rfl (H.nb hg (w := 0) (by decide)), ← H.its hg (w := 0) (by decide)]
  rfl
theorem keeps_eq {c μ : gM} {N : Nat} (H : RC c (μ 1) N) {g : Nat} (hg : g < N) : x_keeps1 (mget c g) = m_keeps μ g := by
  rw [keeps_is rfl (H.nb hg (w := 0) (by decide)), ← H.its hg (w := 0) (by decide)]
  rfl
theorem eq_of {σ μ : gM} (h : R σ μ) (glove : Int32) (what : Int32) : (x_of σ glove what).1 = (m_of μ glove what).1 ∧ R (x_of σ glove what).2 (m_of μ glove what).2 := by
  obtain ⟨N, H⟩ := h.1
  rw [mg0] at H
  have z : μ 0 2 = 0 := h.2.2.2.1
  have hi := has_iff H glove
  unfold x_of m_of
  simp only [mg0]
  by_cases c1 : x_has0 σ glove = 0
  · rw [if_pos c1, if_pos (hi.mp c1)]
    exact ef0 h
  · rw [if_neg c1, if_neg (fun q => c1 (hi.mpr q))]
    obtain ⟨g, hg, rfl⟩ := hasG H c1
    have h8 := H.n8
    rw [nN_nI (by omega)]
    by_cases c2 : x_isWithin what 10 = 0
    · rw [if_pos c2, if_pos ((win (M := 10) rfl).mp c2)]
      exact ef0 h
    · rw [if_neg c2, if_neg (win_n (M := 10) rfl c2)]
      obtain ⟨w, hw, rfl⟩ := wn (M := 10) (by decide) c2
      rcases (show w = 0 ∨ w = 1 ∨ w = 2 ∨ w = 3 ∨ w = 4 ∨ w = 5 ∨ w = 6 ∨ w = 7 ∨ w = 8 ∨ w = 9 ∨ w = 10 by omega) with rfl | rfl | rfl | rfl | rfl | rfl | rfl | rfl | rfl | rfl | rfl
      · exact ⟨H.its hg (w := 0) (by decide), h⟩
      · exact ⟨H.its hg (w := 1) (by decide), h⟩
      · exact ⟨H.its hg (w := 2) (by decide), h⟩
      · exact ⟨H.its hg (w := 3) (by decide), h⟩
      · exact ⟨H.its hg (w := 4) (by decide), h⟩
      · exact ⟨H.its hg (w := 5) (by decide), h⟩
      · exact ⟨H.its hg (w := 6) (by decide), h⟩
      · exact ⟨needOf_eq H z hg, h⟩
      · exact ⟨hushes_eq H hg, h⟩
      · exact ⟨stays_eq H hg, h⟩
      · exact ⟨keeps_eq H hg, h⟩
theorem drawn_lo {μ : gM} {g j : Nat} (hj : j < 9) : (m_drawnOn μ g) 1 j = μ 1 j := by
  unfold m_drawnOn
  rw [sets_ne (by omega), sets_ne (by omega), sets_ne (by omega), sets_ne (by omega), sets_ne (by omega)]
/-- one glove's row of the class set anew -/
theorem R_glove {σ μ μ' : gM} {N g : Nat} {ρ : gM} (h : R σ μ) (H : RC σ (μ 1) N) (hg : g < N) (hμ : ∀ k, k ≠ 1 → μ' k = μ k) (hd : ∀ j, (j < 9 ∨ 65 ≤ j) → μ' 1 j = μ 1 j) (hG : GRl (ρ 0) (μ' 1) g) (hO : ∀ g', g' < N → g' ≠ g → GRl (σ g') (μ' 1) g') : R (mput σ g 1 ρ) μ' := by
  have h8 := H.n8
  refine R_club h ⟨N, ?_⟩ (fun k hk => mput_out _ _ (by omega)) (fun k k1 _ _ _ => hμ k k1)
  refine H.glove hg (fun k hk => ?_) hd ?_ hO
  · rw [mput1, if_neg hk]
  · rw [mput1, if_pos rfl]; exact hG
theorem eq_draw {σ μ : gM} (h : R σ μ) (glove : Int32) : (x_draw σ glove).1 = (m_draw μ glove).1 ∧ R (x_draw σ glove).2 (m_draw μ glove).2 := by
  obtain ⟨N, H⟩ := h.1
  rw [mg0] at H
  have hi := has_iff H glove
  unfold x_draw m_draw
  simp only [mg0]
  by_cases c1 : x_has0 σ glove = 0
  · rw [if_pos c1, if_pos (hi.mp c1)]
    exact ef0 h
  · rw [if_neg c1, if_neg (fun q => c1 (hi.mpr q))]
    obtain ⟨g, hg, rfl⟩ := hasG H c1
    have h8 := H.n8
    rw [nN_nI (by omega), stays_eq H hg]
    by_cases c2 : m_stays μ g = 0
    · rw [if_pos c2, if_pos c2]
      exact ef4 h
    · rw [if_neg c2, if_neg c2]
      have hd := drawn_rel (H.gr hg)
      refine ⟨?_, ?_⟩
      · show (mput σ g 1 (x_beDrawnOn1 (mget σ g))) g 5 = m_its (m_drawnOn μ g) g 5
        rw [mput1, if_pos rfl, drawn_form]
        exact (hd 5 (by decide)).1
      · refine R_glove h H hg (fun k hk => drawnOn_row hk) (fun j hj => ?_) ?_ (fun g' hg' hne => drawn_other (H.gr hg') (by omega) (by omega) hne)
        · rcases hj with hj | hj
          · exact drawn_lo hj
          · exact drawn_hi (by omega) hj
        · rw [drawn_form]; exact hd
theorem most_v : ∀ w, w ≤ 6 → tb_most.getD w 0 = nI (bnd w) ∧ m_mostOf (nI w) = nI (bnd w) := by decide +kernel
theorem mostOf_x {w : Nat} (hw : w ≤ 6) : x_mostOf1 (nI w) = nI (bnd w) := by
  unfold x_mostOf1
  rw [if_neg (show ¬ x_isWithin (nI w) 6 = 0 from win_iff.mpr ⟨by rw [nI_toInt (by omega)]; omega, by rw [nI_toInt (by omega), show (6 : Int32).toInt = 6 from rfl]; omega⟩), nN_nI (by omega)]
  exact (most_v w hw).1
theorem bnd_lt (w : Nat) : bnd w < 65536 := match w with
  | 0 => by decide
  | 1 => by decide
  | 2 => by decide
  | 3 => by decide
  | 4 => by decide
  | 5 => by decide
  | 6 => by decide
  | n + 7 => by show 0 < 65536; decide
theorem setTrait_form (ρ : gM) {w : Nat} (hw : w ≤ 6) (v : Int32) : (x_setTrait1 ρ (nI w) v) 0 = upd (ρ 0) w v := by
  rcases (show w = 0 ∨ w = 1 ∨ w = 2 ∨ w = 3 ∨ w = 4 ∨ w = 5 ∨ w = 6 by omega) with rfl | rfl | rfl | rfl | rfl | rfl | rfl
  · exact mset_at ρ 0 0 v
  · exact mset_at ρ 0 1 v
  · exact mset_at ρ 0 2 v
  · exact mset_at ρ 0 3 v
  · exact mset_at ρ 0 4 v
  · exact mset_at ρ 0 5 v
  · exact mset_at ρ 0 6 v
theorem trait_form (ρ : gM) {w : Nat} (hw : w ≤ 6) : x_trait1 ρ (nI w) = ρ 0 w := by
  rcases (show w = 0 ∨ w = 1 ∨ w = 2 ∨ w = 3 ∨ w = 4 ∨ w = 5 ∨ w = 6 by omega) with rfl | rfl | rfl | rfl | rfl | rfl | rfl <;> rfl
theorem R_set {σ μ : gM} {N g w x : Nat} (h : R σ μ) (H : RC σ (μ 1) N) (hg : g < N) (hw : w ≤ 6) (hx : x ≤ bnd w) : R (mput σ g 1 (x_setTrait1 (mget σ g) (nI w) (nI x))) (m_sets μ g w (nI x)) := by
  have h8 := H.n8
  refine R_glove h H hg (fun k hk => sets_row hk) (fun j hj => sets_ne (by omega)) ?_ (fun g' hg' hne => (H.gr hg').other (by omega) (by omega) hne)
  rw [setTrait_form _ hw]
  exact (H.gr hg).set (by omega) ⟨x, hx, rfl⟩
theorem eq_change {σ μ : gM} (h : R σ μ) (glove : Int32) (what : Int32) (v : Int32) : (x_change σ glove what v).1 = (m_change μ glove what v).1 ∧ R (x_change σ glove what v).2 (m_change μ glove what v).2 := by
  obtain ⟨N, H⟩ := h.1
  rw [mg0] at H
  have hi := has_iff H glove
  unfold x_change m_change
  simp only [mg0]
  by_cases c1 : x_has0 σ glove = 0
  · rw [if_pos c1, if_pos (hi.mp c1)]
    exact ef0 h
  · rw [if_neg c1, if_neg (fun q => c1 (hi.mpr q))]
    obtain ⟨g, hg, rfl⟩ := hasG H c1
    have h8 := H.n8
    rw [nN_nI (by omega)]
    by_cases c2 : x_isWithin what 6 = 0
    · have e : x_mostOf1 what = -1 := by unfold x_mostOf1; rw [if_pos c2]
      have e2 : x_isWithin v (-1) = 0 := Classical.byContradiction (fun q => by
        have := win_iff.mp q
        rw [show (-1 : Int32).toInt = -1 from rfl] at this
        omega)
      rw [e, if_pos e2, if_pos ((win (M := 6) rfl).mp c2)]
      exact ef0 h
    · obtain ⟨w, hw, rfl⟩ := wn (M := 6) (by decide) c2
      rw [if_neg (win_n (M := 6) rfl c2), mostOf_x hw, (most_v w hw).2, nN_nI (by omega)]
      by_cases c3 : x_isWithin v (nI (bnd w)) = 0
      · rw [if_pos c3, if_pos ((win (Int32.toInt_toInt64 _)).mp c3)]
        exact ef0 h
      · rw [if_neg c3, if_neg (win_n (Int32.toInt_toInt64 _) c3)]
        obtain ⟨x, hx, rfl⟩ := wn (M := bnd w) (by have := bnd_lt w; omega) c3
        refine ⟨?_, R_set h H hg hw hx⟩
        show x_trait1 (mget σ g) (nI w) = μ 1 (9 + 8 * w + g)
        rw [trait_form _ hw]
        exact H.its hg (by omega)
theorem be_form (ρ : gM) (kind room : Int32) : (x_beNew1 ρ kind room) 0 = upd (upd (upd (upd (upd (upd (upd (ρ 0) 0 kind) 1 room) 2 5) 3 0) 4 0) 5 0) 6 0 := by
  unfold x_beNew1
  simp only [mset_at]
theorem comes_1 {μ : gM} {N : Nat} (hN : N ≤ 8) (hd : μ 1 0 = nI N) (kind room : Int32) : (m_comes μ kind room).1 = nI N ∧ (m_comes μ kind room).2 1 0 = nI N + 1 ∧ (∀ w, w < 7 → (m_comes μ kind room).2 1 (9 + 8 * w + N) = (if w = 0 then kind else if w = 1 then room else if w = 2 then 5 else 0)) ∧ ∀ j, j ≠ 0 → (∀ w, w < 7 → j ≠ 9 + 8 * w + N) → (m_comes μ kind room).2 1 j = μ 1 j := by
  have hs : ∀ j, (if j = 0 then (nI N + 1) else 0) = (if j = 0 then (nI N + 1) else 0) := fun _ => rfl
  unfold m_comes
  simp only [m_comes_L10, hd, nN_nI (show N < 2 ^ 31 by omega), m_sets, mset_at]
  refine ⟨trivial, ?_, fun w hw => ?_, fun j j0 hj => ?_⟩
  · rw [upd_at, upd_ne _ _ (show 0 ≠ 9 + 8 * 2 + N by omega), upd_ne _ _ (show 0 ≠ 9 + 8 * 1 + N by omega), upd_ne _ _ (show 0 ≠ 9 + 8 * 0 + N by omega), upd_ne _ _ (show 0 ≠ 9 + 8 * 6 + N by omega), upd_ne _ _ (show 0 ≠ 9 + 8 * 5 + N by omega), upd_ne _ _ (show 0 ≠ 9 + 8 * 4 + N by omega), upd_ne _ _ (show 0 ≠ 9 + 8 * 3 + N by omega), upd_ne _ _ (show 0 ≠ 9 + 8 * 2 + N by omega), upd_ne _ _ (show 0 ≠ 9 + 8 * 1 + N by omega), upd_ne _ _ (show 0 ≠ 9 + 8 * 0 + N by omega), hd]
  · rcases (show w = 0 ∨ w = 1 ∨ w = 2 ∨ w = 3 ∨ w = 4 ∨ w = 5 ∨ w = 6 by omega) with rfl | rfl | rfl | rfl | rfl | rfl | rfl
    · rw [upd_ne _ _ (show 9 + 8 * 0 + N ≠ 0 by omega), upd_ne _ _ (show 9 + 8 * 0 + N ≠ 9 + 8 * 2 + N by omega), upd_ne _ _ (show 9 + 8 * 0 + N ≠ 9 + 8 * 1 + N by omega), upd_at]
      rfl
    · rw [upd_ne _ _ (show 9 + 8 * 1 + N ≠ 0 by omega), upd_ne _ _ (show 9 + 8 * 1 + N ≠ 9 + 8 * 2 + N by omega), upd_at]
      rfl
    · rw [upd_ne _ _ (show 9 + 8 * 2 + N ≠ 0 by omega), upd_at]
      rfl
    · rw [upd_ne _ _ (show 9 + 8 * 3 + N ≠ 0 by omega), upd_ne _ _ (show 9 + 8 * 3 + N ≠ 9 + 8 * 2 + N by omega), upd_ne _ _ (show 9 + 8 * 3 + N ≠ 9 + 8 * 1 + N by omega), upd_ne _ _ (show 9 + 8 * 3 + N ≠ 9 + 8 * 0 + N by omega), upd_ne _ _ (show 9 + 8 * 3 + N ≠ 9 + 8 * 6 + N by omega), upd_ne _ _ (show 9 + 8 * 3 + N ≠ 9 + 8 * 5 + N by omega), upd_ne _ _ (show 9 + 8 * 3 + N ≠ 9 + 8 * 4 + N by omega), upd_at]
      rfl
    · rw [upd_ne _ _ (show 9 + 8 * 4 + N ≠ 0 by omega), upd_ne _ _ (show 9 + 8 * 4 + N ≠ 9 + 8 * 2 + N by omega), upd_ne _ _ (show 9 + 8 * 4 + N ≠ 9 + 8 * 1 + N by omega), upd_ne _ _ (show 9 + 8 * 4 + N ≠ 9 + 8 * 0 + N by omega), upd_ne _ _ (show 9 + 8 * 4 + N ≠ 9 + 8 * 6 + N by omega), upd_ne _ _ (show 9 + 8 * 4 + N ≠ 9 + 8 * 5 + N by omega), upd_at]
      rfl
    · rw [upd_ne _ _ (show 9 + 8 * 5 + N ≠ 0 by omega), upd_ne _ _ (show 9 + 8 * 5 + N ≠ 9 + 8 * 2 + N by omega), upd_ne _ _ (show 9 + 8 * 5 + N ≠ 9 + 8 * 1 + N by omega), upd_ne _ _ (show 9 + 8 * 5 + N ≠ 9 + 8 * 0 + N by omega), upd_ne _ _ (show 9 + 8 * 5 + N ≠ 9 + 8 * 6 + N by omega), upd_at]
      rfl
    · rw [upd_ne _ _ (show 9 + 8 * 6 + N ≠ 0 by omega), upd_ne _ _ (show 9 + 8 * 6 + N ≠ 9 + 8 * 2 + N by omega), upd_ne _ _ (show 9 + 8 * 6 + N ≠ 9 + 8 * 1 + N by omega), upd_ne _ _ (show 9 + 8 * 6 + N ≠ 9 + 8 * 0 + N by omega), upd_at]
      rfl
  · rw [upd_ne _ _ j0, upd_ne _ _ (hj 2 (by decide)), upd_ne _ _ (hj 1 (by decide)), upd_ne _ _ (hj 0 (by decide)), upd_ne _ _ (hj 6 (by decide)), upd_ne _ _ (hj 5 (by decide)), upd_ne _ _ (hj 4 (by decide)), upd_ne _ _ (hj 3 (by decide)), upd_ne _ _ (hj 2 (by decide)), upd_ne _ _ (hj 1 (by decide)), upd_ne _ _ (hj 0 (by decide))]
theorem eq_glove {σ μ : gM} (h : R σ μ) (kind : Int32) (room : Int32) : (x_glove σ kind room).1 = (m_glove μ kind room).1 ∧ R (x_glove σ kind room).2 (m_glove μ kind room).2 := by
  obtain ⟨N, H⟩ := h.1
  rw [mg0] at H
  have h8 := H.n8
  unfold x_glove m_glove
  simp only [mg0]
  by_cases c1 : x_isWithin kind 6 = 0
  · rw [if_pos c1, if_pos ((win (M := 6) rfl).mp c1)]
    exact ef0 h
  · rw [if_neg c1, if_neg (win_n (M := 6) rfl c1)]
    obtain ⟨k, hk, rfl⟩ := wn (M := 6) (by decide) c1
    by_cases c2 : x_isWithin room 5 = 0
    · rw [if_pos c2, if_pos (show m_isPlace room = 0 from (win rfl).mp c2)]
      exact ef0 h
    · rw [if_neg c2, if_neg (show ¬ m_isPlace room = 0 from win_n rfl c2)]
      obtain ⟨r, hr, rfl⟩ := wn (M := 5) (by decide) c2
      have hlt : (σ 8 0 < 8) ↔ N < 8 := by
        rw [H.cN]; exact nI_ltI (a := N) (b := 8) (by omega) (by decide)
      have heq : (μ 1 0 = 8) ↔ N = 8 := by
        rw [H.dN, show (8 : Int32) = nI 8 from rfl]
        exact ⟨fun q => by have := congrArg nN q; rw [nN_nI (by omega), nN_nI (by decide)] at this; exact this, fun q => by rw [q]⟩
      by_cases c3 : N < 8
      · obtain ⟨a1, a2, a3, a4⟩ := comes_1 h8 H.dN (nI k) (nI r)
        rw [if_pos (hlt.mpr c3), if_neg (fun q => by have := heq.mp q; omega)]
        unfold x_putDown0
        rw [if_pos (hlt.mpr c3), H.cN, nN_nI (by omega)]
        refine ⟨?_, ?_⟩
        · show nI N + 1 - 1 = _
          rw [a1, nI_1]; exact pk_sub (b := 1) (by omega)
        · have hR : RC (mput σ 0 12 (mset (mput σ N 1 (x_beNew1 (mget σ N) (nI k) (nI r))) 8 0 (nI N + 1))) ((m_comes μ (nI k) (nI r)).2 1) (N + 1) → R (mput σ 0 12 (mset (mput σ N 1 (x_beNew1 (mget σ N) (nI k) (nI r))) 8 0 (nI N + 1))) (m_comes μ (nI k) (nI r)).2 := fun q => R_club h ⟨N + 1, q⟩ (fun j hj => mput_out _ _ (by omega)) (fun j j1 _ _ _ => cm_row _ _ _ j1)
          refine hR ?_
          have e : ∀ j, j < 12 → (mset (mput σ N 1 (x_beNew1 (mget σ N) (nI k) (nI r))) 8 0 (nI N + 1)) j = (mput σ 0 12 (mset (mput σ N 1 (x_beNew1 (mget σ N) (nI k) (nI r))) 8 0 (nI N + 1))) j := fun j hj => by
            have := mput_in σ (mset (mput σ N 1 (x_beNew1 (mget σ N) (nI k) (nI r))) 8 0 (nI N + 1)) (o := 0) hj
            rw [Nat.zero_add] at this
            exact this.symm
          refine RC_cong e (fun _ _ => rfl) ?_
          have s8 : (mput σ N 1 (x_beNew1 (mget σ N) (nI k) (nI r))) 8 = σ 8 := by rw [mput1, if_neg (by omega)]
          have m : ∀ j, (1 ≤ j ∧ j < 9 ∨ 65 ≤ j) → (m_comes μ (nI k) (nI r)).2 1 j = μ 1 j := fun j hj => a4 j (by omega) (fun w hw => by omega)
          refine ⟨by omega, ?_, ?_, ?_, ?_, ?_, fun j hj => ?_, fun g hg w hw => ?_, fun j hj => ?_⟩
          · rw [mset_at, upd_at, nI_1]
          · rw [a2, nI_1]
          · rw [mset_at, upd_ne _ _ (by decide), s8, m 1 (by omega)]; exact H.day.1
          · rw [m 1 (by omega)]; exact H.day.2
          · rw [mset_at, upd_ne _ _ (by decide), s8, m 2 (by omega)]; exact H.z
          · rw [mset_ne _ _ _ (by omega), mput1, if_neg (by omega), m (3 + j) (by omega)]; exact H.li hj
          · rw [mset_ne _ _ _ (by omega), mput1]
            by_cases eg : g = N
            · subst eg
              rw [if_pos rfl, a3 w hw, be_form]
              rcases (show w = 0 ∨ w = 1 ∨ w = 2 ∨ w = 3 ∨ w = 4 ∨ w = 5 ∨ w = 6 by omega) with rfl | rfl | rfl | rfl | rfl | rfl | rfl
              · exact ⟨rfl, k, hk, rfl⟩
              · exact ⟨rfl, r, hr, rfl⟩
              · exact ⟨rfl, 5, by decide, rfl⟩
              · exact ⟨rfl, 0, by decide, rfl⟩
              · exact ⟨rfl, 0, by decide, rfl⟩
              · exact ⟨rfl, 0, by decide, rfl⟩
              · exact ⟨rfl, 0, by decide, rfl⟩
            · rw [if_neg eg, a4 _ (by omega) (fun w' hw' => by omega)]
              exact H.gl (by omega) hw
          · rw [mset_ne _ _ _ (by omega), mput1, if_neg (by omega), m (65 + j) (by omega)]
            obtain ⟨b1, v, hv, b2⟩ := H.sp hj
            exact ⟨b1, v, by omega, b2⟩
      · rw [if_neg (fun q => c3 (hlt.mp q)), if_pos (heq.mpr (by omega))]
        exact ef1 h
