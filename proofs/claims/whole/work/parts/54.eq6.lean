/-! kinds asked, odds, talk, feed: answers alike -/
theorem isA_any {σ σ2 : gM} {w : Int32} : ∀ (n i : Nat) (own : Int32), x_isA1_L7 σ w n i own = x_isA1_L7 σ2 w n i own
  | 0, _, _ => rfl
  | n + 1, i, own => by
    unfold x_isA1_L7
    rw [isA_any n (i + 1)]
theorem isA_v : ∀ o, o ≤ 6 → ∀ k, k ≤ 6 → (¬ x_isA1_L7 (fun _ _ => 0) (nI k) 7 0 (nI o) = 0 ↔ (nI k = 0 ∨ nI k = nI o ∨ nI k = m_above (nI o) ∨ nI k = m_above (m_above (nI o)))) := by decide +kernel
theorem eq_as {σ μ : gM} (h : R σ μ) (spot : Int32) (kind : Int32) : (x_as σ spot kind).1 = (m_as μ spot kind).1 ∧ R (x_as σ spot kind).2 (m_as μ spot kind).2 := by
  obtain ⟨N, H⟩ := h.1
  rw [mg0] at H
  have h8 := H.n8
  unfold x_as m_as
  simp only [mg0]
  by_cases c1 : x_isWithin spot 9 = 0
  · rw [if_pos c1, if_pos ((win (M := 9) rfl).mp c1)]
    exact ef0 h
  · rw [if_neg c1, if_neg (win_n (M := 9) rfl c1)]
    obtain ⟨s, hs, rfl⟩ := wn (M := 9) (by decide) c1
    by_cases c2 : x_isWithin kind 6 = 0
    · rw [if_pos c2, if_pos ((win (M := 6) rfl).mp c2)]
      exact ef0 h
    · rw [if_neg c2, if_neg (win_n (M := 6) rfl c2)]
      obtain ⟨k, hk, rfl⟩ := wn (M := 6) (by decide) c2
      rw [nN_nI (by omega)]
      obtain ⟨e1, v, hv, e2⟩ := H.sp (j := s) (by omega)
      rw [e1, e2]
      by_cases c3 : v = 0
      · subst c3
        have hh : x_has0 σ (nI 0 - 1) = 0 := Classical.byContradiction (fun q => by
          obtain ⟨p, hp, e⟩ := hasG H q
          exact nI_ne1 (b := p) (by omega) (by rw [← e]; decide +kernel))
        rw [if_pos hh, if_pos (show nI 0 = 0 from rfl)]
        exact ef5 h
      · have hg : v - 1 < N := by omega
        have e3 : nI v - 1 = nI (v - 1) := pk_sub (b := 1) (by omega)
        have hne : ¬ nI v = 0 := fun q => c3 (by have := congrArg nN q; rw [nN_nI (by omega)] at this; exact this)
        have hh : ¬ x_has0 σ (nI (v - 1)) = 0 := by
          unfold x_has0
          rw [H.cN]
          exact win_iff.mpr ⟨by rw [nI_toInt (by omega)]; omega, by rw [nI_toInt (by omega), N_1 h8]; omega⟩
        obtain ⟨o, ho, eo⟩ := H.nb hg (w := 0) (by decide)
        have ho : o ≤ 6 := ho
        have ec : σ (v - 1) 0 = nI o := (H.its hg (w := 0) (by decide)).trans eo
        have hv := isA_v o ho k hk
        have hx : x_isA1 (mget σ (v - 1)) (nI k) = x_isA1_L7 (fun _ _ => 0) (nI k) 7 0 (nI o) := by
          unfold x_isA1
          rw [isA_any (σ2 := fun _ _ => 0), show (mget σ (v - 1)) 0 0 = σ (v - 1) 0 from rfl, ec]
        rw [e3, if_neg hh, if_neg hne, nN_nI (by omega), hx, eo]
        by_cases q : x_isA1_L7 (fun _ _ => 0) (nI k) 7 0 (nI o) = 0
        · have n : ¬ (nI k = 0 ∨ nI k = nI o ∨ nI k = m_above (nI o) ∨ nI k = m_above (m_above (nI o))) := fun r => hv.mpr r q
          rw [if_pos q, if_neg (fun r => n (Or.inl r)), if_neg (fun r => n (Or.inr (Or.inl r))), if_neg (fun r => n (Or.inr (Or.inr (Or.inl r)))), if_neg (fun r => n (Or.inr (Or.inr (Or.inr r))))]
          exact ef2 h
        · have y := hv.mp q
          rw [if_neg q]
          by_cases d1 : nI k = 0
          · rw [if_pos d1]; exact ⟨rfl, h⟩
          · rw [if_neg d1]
            by_cases d2 : nI k = nI o
            · rw [if_pos d2]; exact ⟨rfl, h⟩
            · rw [if_neg d2]
              by_cases d3 : nI k = m_above (nI o)
              · rw [if_pos d3]; exact ⟨rfl, h⟩
              · rw [if_neg d3]
                by_cases d4 : nI k = m_above (m_above (nI o))
                · rw [if_pos d4]; exact ⟨rfl, h⟩
                · exact absurd y (fun r => by rcases r with r | r | r | r; exact d1 r; exact d2 r; exact d3 r; exact d4 r)
theorem powL {μ : gM} {g k what above blw : Int32} {n52 K : Nat} : ∀ (n i : Nat) (v : Int64), m_odds_L86 μ g k what n52 above blw n i v = (x_power_L5 (if what = 0 then above else blw) K n i v, μ)
  | 0, _, _ => rfl
  | n + 1, i, v => by
    unfold m_odds_L86 x_power_L5
    by_cases c : what = 0
    · rw [if_pos c, powL (K := K) n (i + 1)]
      simp only [if_pos c]
    · rw [if_neg c, powL (K := K) n (i + 1)]
      simp only [if_neg c]
theorem oddL {σ μ : gM} {g k what : Int32} (h : R σ μ) : ∀ (n : Nat) (above blw : Int32), (x_odds_L50 σ g k what n above blw).1 = (m_odds_L52 μ g k what n above blw).1 ∧ R (x_odds_L50 σ g k what n above blw).2 (m_odds_L52 μ g k what n above blw).2
  | 0, _, _ => ⟨rfl, h⟩
  | n + 1, above, blw => by
    have hp : ∀ m, ((if what = 0 then ((x_power above (nN k)), σ) else ((x_power blw (nN k)), σ)) : Int64 × gM).1 = (m_odds_L86 μ g k what m above blw (nN k) 0 1).1 ∧ R ((if what = 0 then ((x_power above (nN k)), σ) else ((x_power blw (nN k)), σ)) : Int64 × gM).2 (m_odds_L86 μ g k what m above blw (nN k) 0 1).2 := fun m => by
      rw [powL (K := nN k)]
      unfold x_power
      by_cases c : what = 0
      · rw [if_pos c, if_pos c]; exact ⟨rfl, h⟩
      · rw [if_neg c, if_neg c]; exact ⟨rfl, h⟩
    unfold x_odds_L50 m_odds_L52
    by_cases c1 : blw ≤ 1
    · rw [if_pos c1, if_pos c1]
      by_cases c2 : jrem above 2 = 0
      · rw [if_pos c2]; exact hp n
      · rw [if_neg c2]; exact hp n
    · rw [if_neg c1, if_neg c1]
      by_cases c2 : jrem above 2 = 0
      · rw [if_pos c2, if_pos c2]; exact oddL h n _ _
      · rw [if_neg c2, if_neg c2]; exact hp n
theorem eq_odds {σ μ : gM} (h : R σ μ) (glove : Int32) (k : Int32) (what : Int32) : (x_odds σ glove k what).1 = (m_odds μ glove k what).1 ∧ R (x_odds σ glove k what).2 (m_odds μ glove k what).2 := by
  obtain ⟨N, H⟩ := h.1
  rw [mg0] at H
  have hi := has_iff H glove
  have e0 : ((((x_finding σ (-1000001)).1).toInt64), (x_finding σ (-1000001)).2).1 = ((((m_finds μ 0).1).toInt64), (m_finds μ 0).2).1 ∧ R ((((x_finding σ (-1000001)).1).toInt64), (x_finding σ (-1000001)).2).2 ((((m_finds μ 0).1).toInt64), (m_finds μ 0).2).2 := ⟨congrArg Int32.toInt64 (ef0 h).1, (ef0 h).2⟩
  unfold x_odds m_odds
  simp only [mg0]
  by_cases c1 : x_has0 σ glove = 0
  · rw [if_pos c1, if_pos (hi.mp c1)]
    exact e0
  · rw [if_neg c1, if_neg (fun q => c1 (hi.mpr q))]
    obtain ⟨g, hg, rfl⟩ := hasG H c1
    have h8 := H.n8
    rw [nN_nI (by omega)]
    by_cases c2 : x_isWithin k 15 = 0
    · rw [if_pos c2, if_pos ((win (M := 15) rfl).mp c2)]
      exact e0
    · rw [if_neg c2, if_neg (win_n (M := 15) rfl c2)]
      by_cases c3 : x_isWithin what 1 = 0
      · rw [if_pos c3, if_pos ((win (M := 1) rfl).mp c3)]
        exact e0
      · rw [if_neg c3, if_neg (win_n (M := 1) rfl c3), (hand_ones H hg).1]
        exact oddL h 5 _ _
theorem RC_seed {c μ : gM} {N : Nat} (H : RC c (μ 1) N) (v : Int32) : RC (mset c 8 2 v) ((mset μ 1 2 v) 1) N := by
  have h8 := H.n8
  refine ⟨h8, ?_, ?_, ?_, ?_, ?_, fun j hj => ?_, fun g hg w hw => ?_, fun j hj => ?_⟩
  · rw [mset_at, upd_ne _ _ (by decide)]; exact H.cN
  · rw [mset_at, upd_ne _ _ (by omega)]; exact H.dN
  · rw [mset_at, mset_at, upd_ne _ _ (by decide), upd_ne _ _ (by decide)]; exact H.day.1
  · rw [mset_at, upd_ne _ _ (by omega)]; exact H.day.2
  · rw [mset_at, mset_at, upd_at, upd_at]
  · rw [mset_ne _ _ _ (by omega), mset_at, upd_ne _ _ (by omega)]; exact H.li hj
  · rw [mset_ne _ _ _ (by omega), mset_at, upd_ne _ _ (by omega)]; exact H.gl hg hw
  · rw [mset_ne _ _ _ (by omega), mset_at, upd_ne _ _ (by omega)]; exact H.sp hj
theorem RC_say {c μ : gM} {N p : Nat} {s : Int32} (H : RC c (μ 1) N) (hp : p < 6) (hs : SV s) : RC (mset c 9 p s) ((mset μ 1 (3 + p) s) 1) N := by
  have h8 := H.n8
  refine ⟨h8, ?_, ?_, ?_, ?_, ?_, fun j hj => ?_, fun g hg w hw => ?_, fun j hj => ?_⟩
  · rw [mset_ne _ _ _ (by omega)]; exact H.cN
  · rw [mset_at, upd_ne _ _ (by omega)]; exact H.dN
  · rw [mset_ne _ _ _ (by omega), mset_at, upd_ne _ _ (by omega)]; exact H.day.1
  · rw [mset_at, upd_ne _ _ (by omega)]; exact H.day.2
  · rw [mset_ne _ _ _ (by omega), mset_at, upd_ne _ _ (by omega)]; exact H.z
  · rw [mset_at, mset_at]
    by_cases e : j = p
    · subst e
      rw [upd_at, upd_at]
      exact ⟨rfl, hs⟩
    · rw [upd_ne _ _ e, upd_ne _ _ (by omega)]; exact H.li hj
  · rw [mset_ne _ _ _ (by omega), mset_at, upd_ne _ _ (by omega)]; exact H.gl hg hw
  · rw [mset_ne _ _ _ (by omega), mset_at, upd_ne _ _ (by omega)]; exact H.sp hj
theorem all_n (x : Int32) : ∃ n, n < 2 ^ 32 ∧ x = nI n := by
  refine ⟨x.toBitVec.toNat, x.toBitVec.isLt, Int32.toBitVec_inj.mp ?_⟩
  show x.toBitVec = BitVec.ofInt 32 ((x.toBitVec.toNat : Nat) : Int)
  rw [BitVec.ofInt_natCast, BitVec.ofNat_toNat, BitVec.setWidth_eq]
theorem ush8 (x : Int32) : ∃ n, n < 16777216 ∧ jushr x 8 = nI n := by
  obtain ⟨n, hn, rfl⟩ := all_n x
  exact ⟨n / 2 ^ 8, by omega, ush_nI hn (i := 8) (by decide)⟩
theorem draw_rel {c μ : gM} {N : Nat} (H : RC c (μ 1) N) : (x_nextDraw0 c).1 = (m_drawOne μ).1 ∧ RC (x_nextDraw0 c).2 ((m_drawOne μ).2 1) N ∧ ∃ n, n < 16777216 ∧ (m_drawOne μ).1 = nI n := by
  unfold x_nextDraw0 m_drawOne
  rw [H.z]
  exact ⟨rfl, RC_seed H _, ush8 _⟩
theorem drawOne_row {μ : gM} {k : Nat} (hk : k ≠ 1) : (m_drawOne μ).2 k = μ k := mset_ne _ _ _ hk
theorem drawOne_day {μ : gM} : (m_drawOne μ).2 1 1 = μ 1 1 := by
  unfold m_drawOne
  dsimp only
  rw [mset_at, upd_ne _ _ (by decide)]
theorem place_is {c : gM} {d : Nat → Int32} {N : Nat} (H : RC c d N) : nN (x_placeOfToday0 c) = nN (d 1) % 6 := by
  obtain ⟨e, v, hv, e2⟩ := H.day
  have hp : x_placeOfToday0 c = nI (v % 6) := by
    unfold x_placeOfToday0 j_floorMod
    rw [e, e2, show (6 : Int32) = nI 6 from rfl, nx_xor, if_pos (nI_pos' (by
      have : v ^^^ 6 < 2 ^ 17 := Nat.xor_lt_two_pow (by omega) (by decide)
      omega))]
    exact pk_rem (d := 6) (by omega) (by decide) (by decide)
  rw [hp, e2, nN_nI (by omega), nN_nI (by omega)]
def m_saysOne (τ : gM) : gM := mset (m_drawOne (m_drawOne (m_drawOne τ).2).2).2 1 (3 + nN (τ 1 1) % 6) (((1000 * (jrem (m_drawOne τ).1 6)) + (10 * (jrem (m_drawOne (m_drawOne τ).2).1 16))) + (jrem (m_drawOne (m_drawOne (m_drawOne τ).2).2).1 10))
theorem drawS_rel {c μ : gM} {N : Nat} (H : RC c (μ 1) N) : RC (x_drawSaying0 c) ((m_saysOne μ) 1) N := by
  obtain ⟨a1, a2, n1, b1, d1⟩ := draw_rel H
  obtain ⟨a3, a4, n2, b2, d2⟩ := draw_rel a2
  obtain ⟨a5, a6, n3, b3, d3⟩ := draw_rel a4
  have hp := place_is a6
  rw [drawOne_day, drawOne_day, drawOne_day] at hp
  unfold x_drawSaying0 m_saysOne x_sayingOf
  rw [hp, a1, a3, a5]
  refine RC_say a6 (Nat.mod_lt _ (by decide)) ?_
  rw [d1, d2, d3]
  refine ⟨n1 % 6, n2 % 16, n3 % 10, by omega, by omega, by omega, ?_⟩
  rw [show jrem (nI n1) 6 = nI (n1 % 6) from pk_rem (d := 6) (by omega) (by decide) (by decide), show jrem (nI n2) 16 = nI (n2 % 16) from pk_rem (d := 16) (by omega) (by decide) (by decide), show jrem (nI n3) 10 = nI (n3 % 10) from pk_rem (d := 10) (by omega) (by decide) (by decide), show (1000 : Int32) = nI 1000 from rfl, show (10 : Int32) = nI 10 from rfl, pk_mul, pk_mul, nI_add, nI_add]
theorem saysOne_row {μ : gM} {k : Nat} (hk : k ≠ 1) : (m_saysOne μ) k = μ k := by
  unfold m_saysOne
  rw [mset_ne _ _ _ hk, drawOne_row hk, drawOne_row hk, drawOne_row hk]
theorem mp0 {σ ρ : gM} : ∀ k, k < 12 → (mput σ 0 12 ρ) k = ρ k := fun k hk => by
  have := mput_in σ ρ (o := 0) hk
  rw [Nat.zero_add] at this
  exact this
theorem talkL {k : Int32} {σ0 μ0 : gM} : ∀ (n i : Nat) (σ μ : gM), R σ μ → (x_talk_L41 σ0 k n i σ).1 = (m_talk_L39 μ0 k n i μ).1 ∧ R (x_talk_L41 σ0 k n i σ).2 (m_talk_L39 μ0 k n i μ).2
  | 0, i, σ, μ, h => by
    obtain ⟨N, H⟩ := h.1
    exact ⟨(all_eq H).1, h⟩
  | n + 1, i, σ, μ, h => by
    obtain ⟨N, H⟩ := h.1
    have z : μ 0 2 = 0 := h.2.2.2.1
    have H1 := drawS_rel H
    have H2 : RC (mget (mput σ 0 12 (x_drawSaying0 (mget σ 0))) 0) ((m_saysOne μ) 1) N := by
      rw [mg0]
      exact RC_cong (fun j hj => (mp0 j hj).symm) (fun _ _ => rfl) H1
    have z2 : (m_saysOne μ) 0 2 = 0 := by rw [saysOne_row (by decide)]; exact z
    have H3 := day_rel H2
    rw [z2] at H3
    unfold x_talk_L41 m_talk_L39
    refine talkL n (i + 1) _ _ ?_
    refine R_club h ⟨N, RC_cong (fun j hj => (mp0 j hj).symm) (fun _ _ => rfl) H3⟩ (fun j hj => ?_) (fun j j1 _ _ _ => ?_)
    · rw [mput_out _ _ (by omega), mput_out _ _ (by omega)]
    · exact (dg_row (m_saysOne μ) j1).trans (saysOne_row j1)
theorem eq_talk {σ μ : gM} (h : R σ μ) (k : Int32) : (x_talk σ k).1 = (m_talk μ k).1 ∧ R (x_talk σ k).2 (m_talk μ k).2 := by
  obtain ⟨N, H⟩ := h.1
  rw [mg0] at H
  have b := in_int k 1 20
  rw [show (1 : Int64).toInt = 1 from rfl, show (20 : Int64).toInt = 20 from rfl] at b
  have l1 : k < 1 ↔ k.toInt < 1 := Int32.lt_iff_toInt_lt
  have l2 : k ≤ 20 ↔ k.toInt ≤ 20 := Int32.le_iff_toInt_le
  unfold x_talk m_talk
  by_cases c1 : k < 1
  · rw [if_pos c1, if_pos (Classical.byContradiction (fun q => by have := (b.mp q).1; have := l1.mp c1; omega))]
    exact ef0 h
  · rw [if_neg c1]
    by_cases c2 : k ≤ 20
    · rw [if_pos c2, if_neg (b.mpr ⟨by have : ¬ k.toInt < 1 := fun q => c1 (l1.mpr q); omega, l2.mp c2⟩), H.day.1]
      by_cases c3 : (μ 1 1 + k) ≤ 99999
      · rw [if_pos c3, if_pos c3]
        exact talkL _ 0 σ μ h
      · rw [if_neg c3, if_neg c3]
        exact ef4 h
    · rw [if_neg c2, if_pos (Classical.byContradiction (fun q => c2 (l2.mpr (b.mp q).2)))]
      exact ef0 h
