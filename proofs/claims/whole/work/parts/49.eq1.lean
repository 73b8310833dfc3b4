/-! answers alike: list, gloves, days -/
theorem mg0 (σ : gM) : mget σ 0 = σ := funext (fun k => congrArg σ (Nat.zero_add k))
theorem win_iff {v M : Int32} : (¬ x_isWithin v M = 0) ↔ (0 ≤ v.toInt ∧ v.toInt ≤ M.toInt) := by
  have h0 : (0 : Int32).toInt = 0 := rfl
  unfold x_isWithin
  by_cases h1 : v < 0
  · rw [if_pos h1]
    have := Int32.lt_iff_toInt_lt.mp h1
    exact ⟨fun q => absurd rfl q, fun q => by omega⟩
  · rw [if_neg h1]
    have a : ¬ v.toInt < 0 := fun q => h1 (Int32.lt_iff_toInt_lt.mpr (by omega))
    by_cases h2 : M < v
    · rw [if_pos h2]
      have := Int32.lt_iff_toInt_lt.mp h2
      exact ⟨fun q => absurd rfl q, fun q => by omega⟩
    · rw [if_neg h2]
      have b : ¬ M.toInt < v.toInt := fun q => h2 (Int32.lt_iff_toInt_lt.mpr q)
      exact ⟨fun _ => ⟨by omega, by omega⟩, fun _ => by decide⟩
theorem win {v M : Int32} {L : Int64} (h : L.toInt = M.toInt) : (x_isWithin v M = 0) ↔ (m_in v.toInt64 0 L = 0) := by
  have a := win_iff (v := v) (M := M)
  have b := in_int v 0 L
  rw [h] at b
  have z : (0 : Int64).toInt = 0 := rfl
  rw [z] at b
  constructor
  · intro q
    exact Classical.byContradiction (fun r => a.mpr (b.mp r) q)
  · intro q
    exact Classical.byContradiction (fun r => b.mpr (a.mp r) q)
theorem win_n {v M : Int32} {L : Int64} (h : L.toInt = M.toInt) (c : ¬ x_isWithin v M = 0) : ¬ m_in v.toInt64 0 L = 0 := fun q => c ((win h).mpr q)
theorem has_iff {σ μ : gM} {N : Nat} (H : RC σ (μ 1) N) (g : Int32) : (x_has0 σ g = 0) ↔ (m_isGlove μ g = 0) := by
  unfold x_has0 m_isGlove
  refine win ?_
  rw [Int32.toInt_toInt64, H.cN, H.dN]
theorem R_find {σ μ : gM} (h : R σ μ) {k : Nat} : R (mset σ 45 k (σ 45 k + 1)) (mset μ 5 k (μ 5 k + 1)) := by
  obtain ⟨⟨N, hC⟩, ⟨⟨K, k1, k2⟩, k3, k4⟩, ⟨T, t1, t2, t3, t4⟩, hg, hS, hF, hN⟩ := h
  have m : ∀ j, j ≠ 5 → mset μ 5 k (μ 5 k + 1) j = μ j := fun j hj => mset_ne _ _ _ hj
  have s : ∀ j, j ≠ 45 → mset σ 45 k (σ 45 k + 1) j = σ j := fun j hj => mset_ne _ _ _ hj
  refine ⟨⟨N, ?_⟩, ⟨⟨K, k1, ?_⟩, ?_, ?_⟩, ⟨T, t1, ?_, ?_, fun j hj => ?_⟩, ?_, fun q hq => ?_, fun q hq => ?_, fun j hj => ?_⟩
  · rw [m 1 (by decide)]
    exact RC_cong (fun j hj => (s (0 + j) (by omega)).symm) (fun _ _ => rfl) hC
  · rw [s 20 (by decide)]; exact k2
  · rw [s 44 (by decide), m 0 (by decide)]; exact k3
  · rw [m 0 (by decide), m 4 (by decide)]
    rcases k4 with z | ⟨z, K', z2⟩
    · exact Or.inl z
    · exact Or.inr ⟨z, K', RC_cong (fun j hj => (s (12 + j) (by omega)).symm) (fun _ _ => rfl) z2⟩
  · rw [s 42 (by decide)]; exact t2
  · rw [m 0 (by decide)]; exact t3
  · rw [s 43 (by decide), m 6 (by decide)]; exact t4 j hj
  · rw [m 0 (by decide)]; exact hg
  · rw [s _ (by omega), s _ (by omega), m 7 (by decide), m 8 (by decide), m 9 (by decide)]; exact hS q hq
  · rw [mset_at, mset_at]
    by_cases e : q = k
    · subst e
      rw [upd_at, upd_at, hF q hq]
    · rw [upd_ne _ _ e, upd_ne _ _ e]; exact hF q hq
  · rw [s 41 (by decide)]; exact hN j hj
theorem eq_fin {σ μ : gM} (h : R σ μ) (k : Nat) (hk : k < 7) (t : Int32) (h1 : (-1000001) - t = nI k) (h2 : (-1000001) - nI k = t) : (x_finding σ t).1 = (m_finds μ k).1 ∧ R (x_finding σ t).2 (m_finds μ k).2 := by
  have hw : ¬ x_isWithin (nI k) 6 = 0 := win_iff.mpr ⟨by rw [nI_toInt (by omega)]; omega, by rw [nI_toInt (by omega), show (6 : Int32).toInt = 6 from rfl]; omega⟩
  unfold x_finding m_finds
  rw [h1, if_neg hw, nN_nI (by omega)]
  exact ⟨h2.symm, R_find h⟩
theorem ef0 {σ μ : gM} (h : R σ μ) : (x_finding σ (-1000001)).1 = (m_finds μ 0).1 ∧ R (x_finding σ (-1000001)).2 (m_finds μ 0).2 := eq_fin h 0 (by decide) _ (by decide +kernel) (by decide +kernel)
theorem ef1 {σ μ : gM} (h : R σ μ) : (x_finding σ (-1000002)).1 = (m_finds μ 1).1 ∧ R (x_finding σ (-1000002)).2 (m_finds μ 1).2 := eq_fin h 1 (by decide) _ (by decide +kernel) (by decide +kernel)
theorem ef2 {σ μ : gM} (h : R σ μ) : (x_finding σ (-1000003)).1 = (m_finds μ 2).1 ∧ R (x_finding σ (-1000003)).2 (m_finds μ 2).2 := eq_fin h 2 (by decide) _ (by decide +kernel) (by decide +kernel)
theorem ef3 {σ μ : gM} (h : R σ μ) : (x_finding σ (-1000004)).1 = (m_finds μ 3).1 ∧ R (x_finding σ (-1000004)).2 (m_finds μ 3).2 := eq_fin h 3 (by decide) _ (by decide +kernel) (by decide +kernel)
theorem ef4 {σ μ : gM} (h : R σ μ) : (x_finding σ (-1000005)).1 = (m_finds μ 4).1 ∧ R (x_finding σ (-1000005)).2 (m_finds μ 4).2 := eq_fin h 4 (by decide) _ (by decide +kernel) (by decide +kernel)
theorem ef5 {σ μ : gM} (h : R σ μ) : (x_finding σ (-1000006)).1 = (m_finds μ 5).1 ∧ R (x_finding σ (-1000006)).2 (m_finds μ 5).2 := eq_fin h 5 (by decide) _ (by decide +kernel) (by decide +kernel)
theorem ef6 {σ μ : gM} (h : R σ μ) : (x_finding σ (-1000007)).1 = (m_finds μ 6).1 ∧ R (x_finding σ (-1000007)).2 (m_finds μ 6).2 := eq_fin h 6 (by decide) _ (by decide +kernel) (by decide +kernel)
/-- the club alone changes -/
theorem R_club {σ σ' μ μ' : gM} (h : R σ μ) (hC : ∃ N, RC σ' (μ' 1) N) (hσ : ∀ k, (12 ≤ k ∧ k < 24) ∨ 36 ≤ k → σ' k = σ k) (hμ : ∀ k, k ≠ 1 → k ≠ 2 → k ≠ 3 → k ≠ 10 → μ' k = μ k) : R σ' μ' := by
  obtain ⟨-, ⟨⟨K, k1, k2⟩, k3, k4⟩, ⟨T, t1, t2, t3, t4⟩, hg, hS, hF, hN⟩ := h
  have m0 := hμ 0 (by decide) (by decide) (by decide) (by decide)
  refine ⟨by rw [mg0]; exact hC, ⟨⟨K, k1, ?_⟩, ?_, ?_⟩, ⟨T, t1, ?_, ?_, fun j hj => ?_⟩, ?_, fun q hq => ?_, fun q hq => ?_, fun j hj => ?_⟩
  · rw [hσ 20 (by omega)]; exact k2
  · rw [hσ 44 (by omega), m0]; exact k3
  · rw [m0, hμ 4 (by decide) (by decide) (by decide) (by decide)]
    rcases k4 with z | ⟨z, K', z2⟩
    · exact Or.inl z
    · exact Or.inr ⟨z, K', RC_cong (fun j hj => (hσ (12 + j) (by omega)).symm) (fun _ _ => rfl) z2⟩
  · rw [hσ 42 (by omega)]; exact t2
  · rw [m0]; exact t3
  · rw [hσ 43 (by omega), hμ 6 (by decide) (by decide) (by decide) (by decide)]; exact t4 j hj
  · rw [m0]; exact hg
  · rw [hσ _ (by omega), hσ _ (by omega), hμ 7 (by decide) (by decide) (by decide) (by decide), hμ 8 (by decide) (by decide) (by decide) (by decide), hμ 9 (by decide) (by decide) (by decide) (by decide)]; exact hS q hq
  · rw [hσ 45 (by omega), hμ 5 (by decide) (by decide) (by decide) (by decide)]; exact hF q hq
  · rw [hσ 41 (by omega)]; exact hN j hj
/-- a glove of the club changes -/
theorem RC.glove {c c' : gM} {d d' : Nat → Int32} {N g : Nat} (H : RC c d N) (hg : g < N) (hc : ∀ k, k ≠ g → c' k = c k) (hd : ∀ j, (j < 9 ∨ 65 ≤ j) → d' j = d j) (hG : GRl (c' g) d' g) (hO : ∀ g', g' < N → g' ≠ g → GRl (c g') d' g') : RC c' d' N := by
  have h8 := H.n8
  refine ⟨h8, ?_, ?_, ?_, ?_, ?_, fun j hj => ?_, fun g' hg' w hw => ?_, fun j hj => ?_⟩
  · rw [hc 8 (by omega)]; exact H.cN
  · rw [hd 0 (by omega)]; exact H.dN
  · rw [hc 8 (by omega), hd 1 (by omega)]; exact H.day.1
  · rw [hd 1 (by omega)]; exact H.day.2
  · rw [hc 8 (by omega), hd 2 (by omega)]; exact H.z
  · rw [hc 9 (by omega), hd _ (by omega)]; exact H.li hj
  · by_cases e : g' = g
    · subst e; exact hG w hw
    · rw [hc g' e]; exact hO g' hg' e w hw
  · rw [hc 10 (by omega), hd _ (by omega)]; exact H.sp hj
theorem isSay_iff (v : Int32) : (x_isSaying v = 0 ↔ m_isSaying v = 0) ∧ (¬ x_isSaying v = 0 → SV v) := by
  unfold x_isSaying m_isSaying
  have z : (0 : Int32).toInt = 0 := rfl
  by_cases hneg : v < 0
  · have hm : m_in v.toInt64 0 5159 = 0 := by
      refine (win (M := 5159) rfl).mp ?_
      exact Classical.byContradiction (fun q => by have := (win_iff.mp q).1; have := Int32.lt_iff_toInt_lt.mp hneg; omega)
    rw [if_pos hm]
    have hx : (if x_isWithin (x_roomOf v) 5 = 0 then (0 : Int32) else if x_isWithin (jrem v 1000) 159 = 0 then 0 else 1) = 0 := by
      by_cases h1 : x_isWithin (x_roomOf v) 5 = 0
      · rw [if_pos h1]
      · rw [if_neg h1]
        by_cases h2 : x_isWithin (jrem v 1000) 159 = 0
        · rw [if_pos h2]
        · exfalso
          have a1 := (win_iff.mp h1).1
          have a2 := (win_iff.mp h2).1
          have e2 : (jrem v 1000).toInt = v.toInt.tmod 1000 := rem_toInt v 1000
          have e1 : (x_roomOf v).toInt = (v.toInt.tdiv 1000).bmod (2 ^ 32) := Int32.toInt_div v 1000
          have hv := Int32.lt_iff_toInt_lt.mp hneg
          have hr : -2147483648 ≤ v.toInt := Int32.minValue_le_toInt v
          have n1 : v.toInt.tdiv 1000 = -((-v.toInt).tdiv 1000) := by rw [Int.neg_tdiv, Int.neg_neg]
          have n2 : v.toInt.tmod 1000 = -((-v.toInt).tmod 1000) := by rw [Int.neg_tmod, Int.neg_neg]
          have p1 : (-v.toInt).tdiv 1000 = (-v.toInt) / 1000 := Int.tdiv_eq_ediv_of_nonneg (by omega)
          have p2 : (-v.toInt).tmod 1000 = (-v.toInt) % 1000 := Int.tmod_eq_emod_of_nonneg (by omega)
          have b1 : (v.toInt.tdiv 1000).bmod (2 ^ 32) = v.toInt.tdiv 1000 := by
            apply Int.bmod_eq_of_le <;> omega
          omega
    rw [hx]
    exact ⟨⟨fun _ => rfl, fun _ => rfl⟩, fun q => absurd rfl q⟩
  · obtain ⟨n, hn, rfl⟩ := nI_of hneg
    have e1 : x_roomOf (nI n) = nI (n / 1000) := pk_div (d := 1000) hn (by decide) (by decide)
    have e2 : jrem (nI n) 1000 = nI (n % 1000) := pk_rem (d := 1000) hn (by decide) (by decide)
    have hb : n / 1000 < 2 ^ 31 := Nat.lt_of_le_of_lt (Nat.div_le_self _ _) hn
    have w1 : (x_isWithin (nI (n / 1000)) 5 = 0) ↔ ¬ n / 1000 ≤ 5 := by
      have a := win_iff (v := nI (n / 1000)) (M := 5)
      rw [nI_toInt hb, show (5 : Int32).toInt = 5 from rfl] at a
      constructor
      · intro q r; exact a.mpr ⟨by omega, by omega⟩ q
      · intro q; exact Classical.byContradiction (fun r => by have := a.mp r; omega)
    have w2 : (x_isWithin (nI (n % 1000)) 159 = 0) ↔ ¬ n % 1000 ≤ 159 := by
      have a := win_iff (v := nI (n % 1000)) (M := 159)
      rw [nI_toInt (by omega), show (159 : Int32).toInt = 159 from rfl] at a
      constructor
      · intro q r; exact a.mpr ⟨by omega, by omega⟩ q
      · intro q; exact Classical.byContradiction (fun r => by have := a.mp r; omega)
    have w3 : (m_in (nI n).toInt64 0 5159 = 0) ↔ ¬ n ≤ 5159 := by
      have a := in_int (nI n) 0 5159
      rw [nI_toInt hn, show (0 : Int64).toInt = 0 from rfl, show (5159 : Int64).toInt = 5159 from rfl] at a
      constructor
      · intro q r; exact a.mpr ⟨by omega, by omega⟩ q
      · intro q; exact Classical.byContradiction (fun r => by have := a.mp r; omega)
    have w4 : ((160 : Int32) ≤ nI (n % 1000)) ↔ 160 ≤ n % 1000 := nI_leI (a := 160) (by decide) (by omega)
    rw [e1, e2]
    by_cases c1 : n / 1000 ≤ 5
    · rw [if_neg (fun q => w1.mp q c1)]
      by_cases c2 : n % 1000 ≤ 159
      · rw [if_neg (fun q => w2.mp q c2), if_neg (fun q => w3.mp q (by omega)), if_neg (fun q => by have := w4.mp q; omega)]
        exact ⟨Iff.rfl, fun _ => ⟨n / 1000, n % 1000 / 10, n % 10, by omega, by omega, by omega, by congr 1; omega⟩⟩
      · rw [if_pos (w2.mpr c2)]
        refine ⟨⟨fun _ => ?_, fun _ => rfl⟩, fun q => absurd rfl q⟩
        by_cases c3 : n ≤ 5159
        · rw [if_neg (fun q => w3.mp q c3), if_pos (w4.mpr (by omega))]
        · rw [if_pos (w3.mpr c3)]
    · rw [if_pos (w1.mpr c1), if_pos (w3.mpr (by omega))]
      exact ⟨Iff.rfl, fun q => absurd rfl q⟩
theorem wn {v : Int32} {M : Nat} (hM : M < 2 ^ 31) (c : ¬ x_isWithin v (nI M) = 0) : ∃ p, p ≤ M ∧ v = nI p := by
  obtain ⟨a, b⟩ := isW_of hM c
  exact ⟨nN v, b, a⟩
theorem eq_say {σ μ : gM} (h : R σ μ) (pl : Int32) (saying : Int32) : (x_say σ pl saying).1 = (m_say μ pl saying).1 ∧ R (x_say σ pl saying).2 (m_say μ pl saying).2 := by
  obtain ⟨N, H⟩ := h.1
  rw [mg0] at H
  unfold x_say m_say
  by_cases c1 : x_isWithin pl 5 = 0
  · rw [if_pos c1, if_pos (show m_isPlace pl = 0 from (win rfl).mp c1)]
    exact ef0 h
  · rw [if_neg c1, if_neg (show ¬ m_isPlace pl = 0 from win_n rfl c1)]
    by_cases c2 : x_isSaying saying = 0
    · rw [if_pos c2, if_pos ((isSay_iff saying).1.mp c2)]
      exact ef0 h
    · rw [if_neg c2, if_neg (fun q => c2 ((isSay_iff saying).1.mpr q))]
      obtain ⟨p, hp, rfl⟩ := wn (M := 5) (by decide) c1
      have hs := (isSay_iff saying).2 c2
      rw [nN_nI (by omega)]
      unfold m_becomes
      have h8 := H.n8
      have hR : RC (mset σ 9 p saying) (mset μ 1 (3 + p) saying 1) N → R (mset σ 9 p saying) (mset μ 1 (3 + p) saying) := fun q => R_club h ⟨N, q⟩ (fun k hk => mset_ne _ _ _ (by omega)) (fun k h1 _ _ _ => mset_ne _ _ _ h1)
      refine ⟨(H.li (by omega)).1, hR ?_⟩
      refine ⟨h8, ?_, ?_, ?_, ?_, ?_, fun j hj => ?_, fun g hg w hw => ?_, fun j hj => ?_⟩
      · exact H.cN
      · rw [mset_at, upd_ne _ _ (by omega)]; exact H.dN
      · rw [mset_at, upd_ne _ _ (by omega)]; exact H.day.1
      · rw [mset_at, upd_ne _ _ (by omega)]; exact H.day.2
      · rw [mset_at, upd_ne _ _ (by omega)]; exact H.z
      · rw [mset_at, mset_at]
        by_cases e : j = p
        · subst e
          rw [upd_at, upd_at]
          exact ⟨rfl, hs⟩
        · rw [upd_ne _ _ e, upd_ne _ _ (by omega)]; exact H.li hj
      · rw [mset_ne _ _ _ (by omega), mset_at, upd_ne _ _ (by omega)]; exact H.gl hg hw
      · rw [mset_ne _ _ _ (by omega), mset_at, upd_ne _ _ (by omega)]; exact H.sp hj
theorem eq_said {σ μ : gM} (h : R σ μ) (pl : Int32) : (x_said σ pl).1 = (m_said μ pl).1 ∧ R (x_said σ pl).2 (m_said μ pl).2 := by
  obtain ⟨N, H⟩ := h.1
  rw [mg0] at H
  unfold x_said m_said
  by_cases c1 : x_isWithin pl 5 = 0
  · rw [if_pos c1, if_pos (show m_isPlace pl = 0 from (win rfl).mp c1)]
    exact ef0 h
  · rw [if_neg c1, if_neg (show ¬ m_isPlace pl = 0 from win_n rfl c1)]
    obtain ⟨p, hp, rfl⟩ := wn (M := 5) (by decide) c1
    rw [nN_nI (by omega)]
    exact ⟨(H.li (by omega)).1, h⟩
