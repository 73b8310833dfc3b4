/-! copy: answers alike -/
theorem copy1 {μ0 : gM} {sn frm tn to cnt : Int32} : ∀ (n i : Nat) (τ : gM), ∃ τ', m_copy_L123 μ0 sn frm tn to cnt n i τ = m_copy_L160 μ0 sn frm tn to cnt (i + n) τ' (nN cnt) 0 τ' ∧ (∀ k, k ≠ 10 → τ' k = τ k) ∧ (∀ j, i ≤ j → j < i + n → τ' 10 j = τ 9 (40 * nN sn + nN frm + j)) ∧ ∀ j, j < i → τ' 10 j = τ 10 j
  | 0, i, τ => ⟨τ, rfl, fun _ _ => rfl, fun j _ _ => by omega, fun _ _ => rfl⟩
  | n + 1, i, τ => by
    obtain ⟨τ', b1, b2, b3, b4⟩ := copy1 (μ0 := μ0) (sn := sn) (frm := frm) (tn := tn) (to := to) (cnt := cnt) n (i + 1) (mset τ 10 i (τ 9 (40 * nN sn + nN frm + i)))
    refine ⟨τ', ?_, fun k hk => (b2 k hk).trans (mset_ne _ _ _ hk), fun j h1 h2 => ?_, fun j hj => ?_⟩
    · unfold m_copy_L123
      rw [b1, show i + 1 + n = i + (n + 1) by omega]
    · by_cases e : j = i
      · rw [b4 j (by omega), mset_at, e, upd_at]
      · rw [b3 j (by omega) (by omega), mset_ne _ _ _ (by decide)]
    · rw [b4 j (by omega), mset_at, upd_ne _ _ (by omega)]
theorem copy2 {μ0 τ0 : gM} {i0 : Nat} {sn frm tn to cnt : Int32} : ∀ (n i : Nat) (τ : gM), (m_copy_L160 μ0 sn frm tn to cnt i0 τ0 n i τ).1 = cnt ∧ (∀ k, k ≠ 9 → (m_copy_L160 μ0 sn frm tn to cnt i0 τ0 n i τ).2 k = τ k) ∧ (∀ j, i ≤ j → j < i + n → (m_copy_L160 μ0 sn frm tn to cnt i0 τ0 n i τ).2 9 (40 * nN tn + nN to + j) = τ 10 j) ∧ (∀ j, (j < 40 * nN tn + nN to + i ∨ 40 * nN tn + nN to + i + n ≤ j) → (m_copy_L160 μ0 sn frm tn to cnt i0 τ0 n i τ).2 9 j = τ 9 j)
  | 0, i, τ => ⟨rfl, fun _ _ => rfl, fun j _ _ => by omega, fun _ _ => rfl⟩
  | n + 1, i, τ => by
    obtain ⟨b1, b2, b3, b4⟩ := copy2 (μ0 := μ0) (τ0 := τ0) (i0 := i0) (sn := sn) (frm := frm) (tn := tn) (to := to) (cnt := cnt) n (i + 1) (mset τ 9 (40 * nN tn + nN to + i) (τ 10 i))
    unfold m_copy_L160
    refine ⟨b1, fun k hk => (b2 k hk).trans (mset_ne _ _ _ hk), fun j h1 h2 => ?_, fun j hj => ?_⟩
    · by_cases e : j = i
      · rw [b4 _ (by omega), mset_at, e, upd_at]
      · rw [b3 j (by omega) (by omega), mset_ne _ _ _ (by decide)]
    · rw [b4 j (by omega), mset_at, upd_ne _ _ (by omega)]
theorem row_iff {ρ : gM} {Z : Nat} {frm cnt : Int32} (hZ : ρ 0 1 = nI Z) (h40 : Z ≤ 40) : (¬ x_hasRow2 ρ frm cnt = 0) ↔ ∃ f c : Nat, frm = nI f ∧ cnt = nI c ∧ f + c ≤ Z := by
  unfold x_hasRow2
  rw [hZ]
  have z : (0 : Int32).toInt = 0 := rfl
  constructor
  · intro q
    by_cases c1 : x_isWithin frm (nI Z) = 0
    · rw [if_pos c1] at q; exact absurd rfl q
    · rw [if_neg c1] at q
      by_cases c2 : x_isWithin cnt (nI Z - frm) = 0
      · rw [if_pos c2] at q; exact absurd rfl q
      · obtain ⟨f, hf, rfl⟩ := wn (by omega) c1
        rw [pk_sub hf] at c2
        obtain ⟨c, hc, rfl⟩ := wn (by omega) c2
        exact ⟨f, c, rfl, rfl, by omega⟩
  · rintro ⟨f, c, rfl, rfl, hfc⟩
    rw [if_neg (win_iff.mpr ⟨by rw [nI_toInt (by omega)]; omega, by rw [nI_toInt (by omega), nI_toInt (by omega)]; omega⟩), pk_sub (by omega), if_neg (win_iff.mpr ⟨by rw [nI_toInt (by omega)]; omega, by rw [nI_toInt (by omega), nI_toInt (by omega)]; omega⟩)]
    decide
theorem lg_iff {f c Z : Nat} (hf : f < 2 ^ 31) (hc : c < 2 ^ 31) (hZ : Z ≤ 40) : 0 < lg_cmp ((nI f).toInt64 + (nI c).toInt64) (nI Z).toInt64 ↔ Z < f + c := by
  rw [lg_cmp_gt, nI_l hf, nI_l hc, nI_l (by omega), lN_add]
  exact pk_lLT (by omega) (by omega)
theorem copy_rel {σ μ : gM} {s t f c o Zs Zt : Nat} (h : R σ μ) (hs : s < 4) (ht : t < 4) (zs : μ 8 s = nI Zs) (zt : μ 8 t = nI Zt) (l1 : Zs ≤ 40) (l2 : Zt ≤ 40) (h1 : f + c ≤ Zs) (h2 : o + c ≤ Zt) : nI c = (m_copy_L123 μ (nI s) (nI f) (nI t) (nI o) (nI c) c 0 μ).1 ∧ R (va_up σ (48 + 2 * t) (va_cpy (σ (48 + 2 * s)) (σ (48 + 2 * t)) f o c)) (m_copy_L123 μ (nI s) (nI f) (nI t) (nI o) (nI c) c 0 μ).2 := by
  obtain ⟨τ', b1, b2, b3, -⟩ := copy1 (μ0 := μ) (sn := nI s) (frm := nI f) (tn := nI t) (to := nI o) (cnt := nI c) c 0 μ
  rw [b1, nN_nI (n := c) (by omega)]
  obtain ⟨d1, d2, d3, d4⟩ := copy2 (μ0 := μ) (τ0 := τ') (i0 := 0 + c) (sn := nI s) (frm := nI f) (tn := nI t) (to := nI o) (cnt := nI c) c 0 τ'
  rw [nN_nI (n := t) (by omega), nN_nI (n := o) (by omega)] at d3 d4
  rw [nN_nI (n := s) (by omega), nN_nI (n := f) (by omega)] at b3
  refine ⟨d1.symm, ?_⟩
  have rw2 : ∀ k, k ≠ 9 → k ≠ 10 → (m_copy_L160 μ (nI s) (nI f) (nI t) (nI o) (nI c) (0 + c) τ' c 0 τ').2 k = μ k := fun k h9 h10 => (d2 k h9).trans (b2 k h10)
  obtain ⟨a1, a2, a3, Z, a4, a5, a6⟩ := h.2.2.2.2.1 t ht
  obtain ⟨-, -, -, Y, a4', a5', a6'⟩ := h.2.2.2.2.1 s hs
  have eZ : Z = Zt := by
    have e1 := congrArg nN (a5.symm.trans zt)
    rw [nN_nI (by omega), nN_nI (by omega)] at e1
    exact e1
  have eY : Y = Zs := by
    have e1 := congrArg nN (a5'.symm.trans zs)
    rw [nN_nI (by omega), nN_nI (by omega)] at e1
    exact e1
  subst eZ
  subst eY
  refine R_sheets h (fun k hk => va_up_ne _ _ (by omega)) (fun k _ _ h9 h10 => rw2 k h9 h10) (RS_one (s := t) h.2.2.2.2.1 (fun k _ hk => va_up_ne _ _ hk) (fun q _ => by rw [rw2 7 (by decide) (by decide)]) (fun q _ => by rw [rw2 8 (by decide) (by decide)]) (fun j hj => ?_) ?_)
  · rw [d4 j (by omega), b2 9 (by decide)]
  · rw [rw2 7 (by decide) (by decide), rw2 8 (by decide) (by decide), va_up_ne _ _ (show 47 + 2 * t ≠ 48 + 2 * t by omega), va_up_self]
    refine ⟨a1, a2, a3, Z, a4, a5, fun i hi => ?_⟩
    by_cases q : o ≤ i ∧ i < o + c
    · have e := d3 (i - o) (by omega) (by omega)
      rw [show 40 * t + o + (i - o) = 40 * t + i by omega, b3 (i - o) (by omega) (by omega)] at e
      rw [pk_cpy_in q.1 q.2, e, a6' _ (by omega)]
      congr 1
      omega
    · rw [pk_cpy_out (by omega), d4 _ (by omega), b2 9 (by decide)]
      exact a6 i hi
theorem eq_copy {σ μ : gM} (h : R σ μ) (sn : Int32) (frm : Int32) (tn : Int32) (to : Int32) (cnt : Int32) : (x_copy σ sn frm tn to cnt).1 = (m_copy μ sn frm tn to cnt).1 ∧ R (x_copy σ sn frm tn to cnt).2 (m_copy μ sn frm tn to cnt).2 := by
  unfold x_copy m_copy
  by_cases c1 : x_isSheet sn = 0
  · rw [if_pos c1, if_pos (show m_isSheet sn = 0 from (win (M := 3) rfl).mp c1)]
    exact ef0 h
  · rw [if_neg c1, if_neg (show ¬ m_isSheet sn = 0 from win_n (M := 3) rfl c1)]
    by_cases c2 : x_isSheet tn = 0
    · rw [if_pos c2, if_pos (show m_isSheet tn = 0 from (win (M := 3) rfl).mp c2)]
      exact ef0 h
    · rw [if_neg c2, if_neg (show ¬ m_isSheet tn = 0 from win_n (M := 3) rfl c2)]
      obtain ⟨s, hs, rfl⟩ := wn (M := 3) (by decide) c1
      obtain ⟨t, ht, rfl⟩ := wn (M := 3) (by decide) c2
      rw [nN_nI (n := s) (by omega), nN_nI (n := t) (by omega)]
      obtain ⟨a1, a2, a3, Zs, a4, a5, a6⟩ := h.2.2.2.2.1 s (by omega)
      obtain ⟨b1, b2, b3, Zt, b4, b5, b6⟩ := h.2.2.2.2.1 t (by omega)
      have ms : (x_isMissing2 (mget σ (47 + 2 * s)) = 0) ↔ ¬ μ 7 s = 0 := by
        unfold x_isMissing2
        rw [show (mget σ (47 + 2 * s)) 0 0 = σ (47 + 2 * s) 0 from rfl, a1]
        by_cases q : μ 7 s = 0
        · rw [if_pos q]; exact ⟨fun r => absurd r (by decide), fun r => absurd q r⟩
        · rw [if_neg q]; exact ⟨fun _ => q, fun _ => rfl⟩
      have mt : (x_isMissing2 (mget σ (47 + 2 * t)) = 0) ↔ ¬ μ 7 t = 0 := by
        unfold x_isMissing2
        rw [show (mget σ (47 + 2 * t)) 0 0 = σ (47 + 2 * t) 0 from rfl, b1]
        by_cases q : μ 7 t = 0
        · rw [if_pos q]; exact ⟨fun r => absurd r (by decide), fun r => absurd q r⟩
        · rw [if_neg q]; exact ⟨fun _ => q, fun _ => rfl⟩
      by_cases c3 : μ 7 s = 0
      · rw [if_neg (fun q => ms.mp q c3), if_pos c3]
        exact ef5 h
      · rw [if_pos (ms.mpr c3), if_neg c3]
        by_cases c4 : μ 7 t = 0
        · rw [if_neg (fun q => mt.mp q c4), if_pos c4]
          exact ef5 h
        · rw [if_pos (mt.mpr c4), if_neg c4, a1, b1]
          by_cases c5 : μ 7 s = μ 7 t
          · rw [if_pos c5, if_pos c5]
            have rs := row_iff (ρ := mget σ (47 + 2 * s)) (frm := frm) (cnt := cnt) (a2.trans a5) a4
            have rt := row_iff (ρ := mget σ (47 + 2 * t)) (frm := to) (cnt := cnt) (b2.trans b5) b4
            rw [a5, b5]
            by_cases n1 : frm < 0
            · rw [if_pos n1, if_pos (Classical.byContradiction (fun q => by obtain ⟨f, c, rfl, rfl, e⟩ := rs.mp q; exact nI_pos (by omega) n1))]
              exact ef0 h
            · rw [if_neg n1]
              by_cases n2 : to < 0
              · rw [if_pos n2, if_pos (show x_hasRow2 (mget σ (47 + 2 * t)) to cnt = 0 from Classical.byContradiction (fun q => by obtain ⟨f, c, rfl, rfl, e⟩ := rt.mp q; exact nI_pos (by omega) n2))]
                split <;> exact ef0 h
              · rw [if_neg n2]
                by_cases n3 : cnt < 0
                · rw [if_pos n3, if_pos (show x_hasRow2 (mget σ (47 + 2 * s)) frm cnt = 0 from Classical.byContradiction (fun q => by obtain ⟨f, c, rfl, rfl, e⟩ := rs.mp q; exact nI_pos (by omega) n3))]
                  exact ef0 h
                · rw [if_neg n3]
                  obtain ⟨f, hf, rfl⟩ := nI_of n1
                  obtain ⟨o, ho, rfl⟩ := nI_of n2
                  obtain ⟨c, hc, rfl⟩ := nI_of n3
                  have ls := lg_iff hf hc a4
                  have lt := lg_iff ho hc b4
                  by_cases w1 : Zs < f + c
                  · rw [if_pos (ls.mpr w1), if_pos (show x_hasRow2 (mget σ (47 + 2 * s)) (nI f) (nI c) = 0 from Classical.byContradiction (fun q => by
                      obtain ⟨f', c', e1, e2, e⟩ := rs.mp q
                      have := (nI_eq hf (by omega)).mp e1
                      have := (nI_eq hc (by omega)).mp e2
                      omega))]
                    exact ef0 h
                  · rw [if_neg (fun q => w1 (ls.mp q)), if_neg (show ¬ x_hasRow2 (mget σ (47 + 2 * s)) (nI f) (nI c) = 0 from rs.mpr ⟨f, c, rfl, rfl, by omega⟩)]
                    by_cases w2 : Zt < o + c
                    · rw [if_neg (fun q => Int32.not_lt.mpr q (lt.mpr w2)), if_pos (show x_hasRow2 (mget σ (47 + 2 * t)) (nI o) (nI c) = 0 from Classical.byContradiction (fun q => by
                        obtain ⟨f', c', e1, e2, e⟩ := rt.mp q
                        have := (nI_eq ho (by omega)).mp e1
                        have := (nI_eq hc (by omega)).mp e2
                        omega))]
                      exact ef0 h
                    · rw [if_pos (Int32.not_lt.mp (fun q => w2 (lt.mp q))), if_neg (show ¬ x_hasRow2 (mget σ (47 + 2 * t)) (nI o) (nI c) = 0 from rt.mpr ⟨o, c, rfl, rfl, by omega⟩)]
                      rw [nN_nI hf, nN_nI ho, nN_nI hc]
                      exact copy_rel h (by omega) (by omega) a5 b5 a4 b4 (by omega) (by omega)
          · rw [if_neg c5, if_neg c5]
            exact ef2 h
