/-! rooms, gloves, days: answers alike -/
theorem wz {v : Int32} {M p : Nat} (hM : M < 2 ^ 31) (c : x_isWithin v (nI M) = 0) (hp : p ≤ M) : v ≠ nI p := fun q => by
  refine win_iff.mpr ?_ c
  rw [q, nI_toInt (by omega), nI_toInt hM]
  omega
theorem hasG {σ : gM} {d : Nat → Int32} {N : Nat} (H : RC σ d N) {g : Int32} (c : ¬ x_has0 σ g = 0) : ∃ p, p < N ∧ g = nI p := by
  have h8 := H.n8
  obtain ⟨a, b⟩ := isW_of1 (L := N) H.cN (by omega) c
  exact ⟨nN g, b, a⟩
theorem roomL {c μ : gM} {N : Nat} (H : RC c (μ 1) N) (z : μ 0 2 = 0) {room what : Int32} : ∀ (n i : Nat) (acc : Int32), i + n = N → m_room_L30 μ room what n i acc = if 3 ≤ what then (m_room_L107 μ room what 0 0 6 0 0) else (if what = 0 then (x_lyingIn0_L5 c room 0 n i acc, μ) else (if what = 1 then ((m_hushIn μ room), μ) else ((m_known μ (x_lyingIn0_L5 c room 0 n i acc) 3), μ)))
  | 0, i, acc, _ => by
    have e : x_lyingIn0_L5 c room 0 0 i acc = acc := by
      show acc &&& (0 ^^^ (-1)) = acc
      rw [show (0 : Int32) ^^^ (-1) = -1 from by decide +kernel, Int32.and_neg_one]
    rw [e]
    rfl
  | n + 1, i, acc, h => by
    have hi : i < N := by omega
    have h8 := H.n8
    have e1 := H.its hi (w := 1) (by decide)
    have e2 := isIn_iff (μ := μ) (g := i) (by omega) (room := room)
    have b0 : bt (μ 0 2) i = false := by rw [z]; exact b_0 i
    unfold m_room_L30 x_lyingIn0_L5
    by_cases q : c i 1 = room
    · rw [if_neg (fun r => (e2.mp r) ⟨b0, by rw [← e1]; exact q⟩), if_pos q]
      exact roomL H z n (i + 1) _ (by omega)
    · rw [if_pos (e2.mpr (fun r => q (by rw [e1]; exact r.2))), if_neg q, Int32.or_zero]
      exact roomL H z n (i + 1) _ (by omega)
theorem eq_room {σ μ : gM} (h : R σ μ) (room : Int32) (what : Int32) : (x_room σ room what).1 = (m_room μ room what).1 ∧ R (x_room σ room what).2 (m_room μ room what).2 := by
  obtain ⟨N, H⟩ := h.1
  rw [mg0] at H
  have z : μ 0 2 = 0 := h.2.2.2.1
  unfold x_room m_room
  rw [mg0]
  by_cases c1 : x_isWithin room 5 = 0
  · rw [if_pos c1, if_pos (show m_isPlace room = 0 from (win rfl).mp c1)]
    exact ef0 h
  · rw [if_neg c1, if_neg (show ¬ m_isPlace room = 0 from win_n rfl c1)]
    by_cases c2 : x_isWithin what 3 = 0
    · rw [if_pos ((win (M := 3) rfl).mp c2), if_neg (show ¬ what = 0 from wz (M := 3) (p := 0) (by decide) c2 (by decide)), if_neg (show ¬ what = 1 from wz (M := 3) (p := 1) (by decide) c2 (by decide)), if_neg (show ¬ what = 2 from wz (M := 3) (p := 2) (by decide) c2 (by decide)), if_neg (show ¬ what = 3 from wz (M := 3) (p := 3) (by decide) c2 (by decide))]
      exact ef0 h
    · rw [if_neg (win_n (M := 3) rfl c2)]
      obtain ⟨w, hw, rfl⟩ := wn (M := 3) (by decide) c2
      rw [H.dn, roomL H z N 0 0 (by omega)]
      have el : x_lyingIn0_L5 σ room 0 N 0 0 = x_lyingIn0 σ room 0 := by unfold x_lyingIn0; rw [H.cn]
      rw [el]
      have hz := hush_eq H room
      rw [z] at hz
      rcases (show w = 0 ∨ w = 1 ∨ w = 2 ∨ w = 3 by omega) with rfl | rfl | rfl | rfl
      · exact ⟨rfl, h⟩
      · exact ⟨hz, h⟩
      · exact ⟨(known_eq H (fun _ _ => rfl)).1, h⟩
      · refine ⟨?_, ?_⟩
        · show x_saidIn0 σ room = (m_room_L107 μ room 3 0 0 6 0 0).1
          rw [saidL H 6 0 0 rfl]
          rfl
        · show R σ (m_room_L107 μ room 3 0 0 6 0 0).2
          rw [saidL H 6 0 0 rfl]
          exact h
theorem eq_who {σ μ : gM} (h : R σ μ) (topic : Int32) (hand : Int32) : (x_who σ topic hand).1 = (m_who μ topic hand).1 ∧ R (x_who σ topic hand).2 (m_who μ topic hand).2 := by
  obtain ⟨N, H⟩ := h.1
  rw [mg0] at H
  unfold x_who m_who
  rw [mg0]
  by_cases c1 : x_isWithin topic 15 = 0
  · rw [if_pos c1, if_pos (show m_isTopic topic = 0 from (win rfl).mp c1)]
    exact ef0 h
  · rw [if_neg c1, if_neg (show ¬ m_isTopic topic = 0 from win_n rfl c1)]
    obtain ⟨t, ht, rfl⟩ := wn (M := 15) (by decide) c1
    by_cases c2 : x_isWithin hand 1 = 0
    · rw [if_pos c2, if_pos ((win (M := 1) rfl).mp c2)]
      exact ef0 h
    · rw [if_neg c2, if_neg (win_n (M := 1) rfl c2)]
      obtain ⟨w, hw, rfl⟩ := wn (M := 1) (by decide) c2
      rw [H.dn]
      rcases (show w = 0 ∨ w = 1 by omega) with rfl | rfl
      · rw [if_neg (show ¬ nI 0 = 1 from by decide +kernel), whoL H (by omega) (bh := 0) (show (nI 0 = 0) ↔ ((0 : Int32) = 0) from ⟨fun _ => rfl, fun _ => rfl⟩) N 0 0 (by omega)]
        unfold x_whoKnows0
        rw [H.cn]
        exact ⟨rfl, h⟩
      · rw [if_pos (show nI 1 = 1 from by decide +kernel), whoL H (by omega) (bh := 1) (show (nI 1 = 0) ↔ ((1 : Int32) = 0) from ⟨fun q => absurd q (by decide +kernel), fun q => absurd q (by decide +kernel)⟩) N 0 0 (by omega)]
        unfold x_whoKnows0
        rw [H.cn]
        exact ⟨rfl, h⟩
theorem eq_go {σ μ : gM} (h : R σ μ) (k : Int32) : (x_go σ k).1 = (m_go μ k).1 ∧ R (x_go σ k).2 (m_go μ k).2 := by
  obtain ⟨N, H⟩ := h.1
  rw [mg0] at H
  have z : μ 0 2 = 0 := h.2.2.2.1
  have b := in_int k 1 60
  rw [show (1 : Int64).toInt = 1 from rfl, show (60 : Int64).toInt = 60 from rfl] at b
  have l1 : k < 1 ↔ k.toInt < 1 := Int32.lt_iff_toInt_lt
  have l2 : k ≤ 60 ↔ k.toInt ≤ 60 := Int32.le_iff_toInt_le
  unfold x_go m_go
  simp only [mg0]
  by_cases c1 : k < 1
  · rw [if_pos c1, if_pos (Classical.byContradiction (fun q => by have := (b.mp q).1; have := l1.mp c1; omega))]
    exact ef0 h
  · rw [if_neg c1]
    by_cases c2 : k ≤ 60
    · rw [if_pos c2, if_neg (b.mpr ⟨by have : ¬ k.toInt < 1 := fun q => c1 (l1.mpr q); omega, l2.mp c2⟩), H.day.1]
      by_cases c3 : (μ 1 1 + k) ≤ 99999
      · rw [if_pos c3, if_pos c3]
        have hd := days_rel H (nN k)
        rw [z] at hd
        have hk : ∀ j, j < 12 → (x_passDays0 σ (nN k) 0) j = (mput σ 0 12 (x_passDays0 σ (nN k) 0)) j := fun j hj => by
          have := mput_in σ (x_passDays0 σ (nN k) 0) (o := 0) hj
          rw [Nat.zero_add] at this
          exact this.symm
        have hd' : RC (mput σ 0 12 (x_passDays0 σ (nN k) 0)) ((m_daysGo μ (nN k)) 1) N := RC_cong hk (fun _ _ => rfl) hd
        refine ⟨(all_eq hd').1, R_club h ⟨N, hd'⟩ (fun j hj => mput_out _ _ (by omega)) (fun j j1 _ _ _ => dys_row _ _ j1)⟩
      · rw [if_neg c3, if_neg c3]
        exact ef4 h
    · rw [if_neg c2, if_pos (Classical.byContradiction (fun q => c2 (l2.mpr (b.mp q).2)))]
      exact ef0 h
theorem eq_now {σ μ : gM} (h : R σ μ) (what : Int32) : (x_now σ what).1 = (m_now μ what).1 ∧ R (x_now σ what).2 (m_now μ what).2 := by
  obtain ⟨N, H⟩ := h.1
  rw [mg0] at H
  have z : μ 0 2 = 0 := h.2.2.2.1
  obtain ⟨a1, a2, a3⟩ := all_eq H
  obtain ⟨t1, t2⟩ := today H
  have a6 := hear_eq H t2
  rw [z] at a6
  unfold x_now m_now
  rw [mg0, t1, H.day.1, a1, a2, a3, drawn_eq H, wisest_eq H, a6]
  by_cases c0 : what = 0
  · rw [if_pos c0, if_pos c0]; exact ⟨rfl, h⟩
  · rw [if_neg c0, if_neg c0]
    by_cases c1 : what = 1
    · rw [if_pos c1, if_pos c1]; exact ⟨rfl, h⟩
    · rw [if_neg c1, if_neg c1]
      by_cases c2 : what = 2
      · rw [if_pos c2, if_pos c2]; exact ⟨rfl, h⟩
      · rw [if_neg c2, if_neg c2]
        by_cases c3 : what = 3
        · rw [if_pos c3, if_pos c3]; exact ⟨rfl, h⟩
        · rw [if_neg c3, if_neg c3]
          by_cases c4 : what = 4
          · rw [if_pos c4, if_pos c4]; exact ⟨rfl, h⟩
          · rw [if_neg c4, if_neg c4]
            by_cases c5 : what = 5
            · rw [if_pos c5, if_pos c5]; exact ⟨rfl, h⟩
            · rw [if_neg c5, if_neg c5]
              by_cases c6 : what = 6
              · rw [if_pos c6, if_pos c6]; exact ⟨rfl, h⟩
              · rw [if_neg c6, if_neg c6]; exact ef0 h
