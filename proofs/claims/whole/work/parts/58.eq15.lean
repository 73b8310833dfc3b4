/-! a token of the class and the reference's own -/
theorem scB_is {b : Nat → Int32} {s : Nat} (hs : b s ≠ 32) : ∀ (n a : Nat), (∀ j, a ≤ j → j < s → b j = 32) → a ≤ s → s < a + n → scB b n a = s
  | 0, a, _, h1, h2 => by omega
  | n + 1, a, hb, h1, h2 => by
    unfold scB
    by_cases c : a = s
    · rw [c, if_neg hs]
    · rw [if_pos (hb a (Nat.le_refl _) (by omega))]
      exact scB_is hs n (a + 1) (fun j q1 q2 => hb j (by omega) q2) (by omega) (by omega)
theorem scN_is {b β : Nat → Int32} {s e : Nat} (hd : ∀ j, s ≤ j → j < e → b j = β j ∧ x_sortOf5 (β j) = 14) (he : m_isDigit (b e) = 0) : ∀ (n a : Nat) (v : Int64), s ≤ a → a ≤ e → e < a + n → 0 ≤ v.toInt → nf β s (a - s) = min 100000 v.toInt.toNat → (scN b n a v).1 = e ∧ 0 ≤ (scN b n a v).2.toInt ∧ nf β s (e - s) = min 100000 (scN b n a v).2.toInt.toNat
  | 0, a, v, h1, h2, h3, _, _ => by omega
  | n + 1, a, v, h1, h2, h3, h4, h5 => by
    unfold scN
    by_cases c : a = e
    · subst c
      rw [if_pos he]
      exact ⟨rfl, h4, h5⟩
    · obtain ⟨d1, d2⟩ := hd a h1 (by omega)
      have dg := so_dig d2
      have nd : ¬ m_isDigit (b a) = 0 := by
        rw [d1]
        rcases so_cases (β a) with q | q | q | q | q
        · rw [q.2.1] at d2; exact absurd d2 (by decide)
        · rw [q.2.1] at d2; exact absurd d2 (by decide)
        · exact q.2.2.2.2.1
        · rw [q.2.2.1] at d2; exact absurd d2 (by decide)
        · rw [q.2.2.1] at d2; exact absurd d2 (by decide)
      rw [if_neg nd]
      have en : nf β s (a + 1 - s) = min 100000 (10 * nf β s (a - s) + (nN (β a) - 48)) := by
        rw [show a + 1 - s = (a - s) + 1 by omega]
        show min 100000 (10 * nf β s (a - s) + (nN (β (s + (a - s))) - 48)) = _
        rw [show s + (a - s) = a by omega]
      obtain ⟨m, hm, em⟩ := nI_of (x := β a) (fun r => by have := Int32.lt_iff_toInt_lt.mp r; rw [show (0 : Int32).toInt = 0 from rfl] at this; omega)
      rw [em, nN_nI hm] at en
      rw [em, nI_toInt hm] at dg
      have hv : lg_cmp v 99999 ≤ 0 ↔ v.toInt ≤ 99999 := by
        rw [lg_cmp_le, Int64.le_iff_toInt_le]
        exact Iff.rfl
      by_cases c2 : lg_cmp v 99999 ≤ 0
      · have c3 := hv.mp c2
        rw [if_pos c2]
        have st := stepN h4 c2 nd
        rw [d1, em, nI_toInt hm] at st
        rw [d1, em]
        refine scN_is hd he n (a + 1) _ (by omega) (by omega) (by omega) (by rw [st]; omega) ?_
        rw [en, st, h5]
        omega
      · have c3 : ¬ v.toInt ≤ 99999 := fun q => c2 (hv.mpr q)
        rw [if_neg c2]
        refine scN_is hd he n (a + 1) _ (by omega) (by omega) (by omega) h4 ?_
        rw [en, h5]
        omega
theorem scW_is {b β : Nat → Int32} {s e : Nat} (hd : ∀ j, s ≤ j → j < e → b j = β j ∧ x_sortOf5 (β j) = 13) (he : m_letter (b e) ≤ 0) : ∀ (n a : Nat) (v : Int64), s ≤ a → a ≤ e → e < a + n → v.toInt = cf β s (a - s) → (scW b n a v).1 = e ∧ (scW b n a v).2.toInt = cf β s (e - s)
  | 0, a, v, h1, h2, h3, _ => by omega
  | n + 1, a, v, h1, h2, h3, h5 => by
    unfold scW
    by_cases c : a = e
    · subst c
      rw [if_pos he]
      exact ⟨rfl, h5⟩
    · obtain ⟨d1, d2⟩ := hd a h1 (by omega)
      obtain ⟨nl, l, l1, l2, l3, l4, l5⟩ := letter_v d2
      rw [d1, if_neg nl]
      have en : cf β s (a + 1 - s) = if cf β s (a - s) ≤ 100000000000000000 then cf β s (a - s) * 27 + l else cf β s (a - s) := by
        rw [show a + 1 - s = (a - s) + 1 by omega]
        show (if cf β s (a - s) ≤ 100000000000000000 then cf β s (a - s) * 27 + lt (β (s + (a - s))) else cf β s (a - s)) = _
        rw [show s + (a - s) = a by omega, l4]
      have hv : lg_cmp v 100000000000000000 ≤ 0 ↔ v.toInt ≤ 100000000000000000 := by
        rw [lg_cmp_le, Int64.le_iff_toInt_le]
        exact Iff.rfl
      by_cases c2 : lg_cmp v 100000000000000000 ≤ 0
      · have c3 := hv.mp c2
        rw [if_pos c2]
        have st := stepW (β a) (by omega) c2
        refine scW_is hd he n (a + 1) _ (by omega) (by omega) (by omega) ?_
        rw [en, st, l5, h5, if_pos (by omega)]
        omega
      · have c3 : ¬ v.toInt ≤ 100000000000000000 := fun q => c2 (hv.mpr q)
        rw [if_neg c2]
        refine scW_is hd he n (a + 1) _ (by omega) (by omega) (by omega) ?_
        rw [en, h5, if_neg (by omega)]
def TQ (so nu : Int32) (s e : Nat) (q : Int32 × Nat × Nat × Int64) : Prop :=
  (so = 17 ∧ q = (0, s, s, 0)) ∨ (so = 15 ∧ q = (3, s, e, 0)) ∨ (so = 16 ∧ q.1 = 4 ∧ q.2.1 = s) ∨ (so = 14 ∧ q.1 = 2 ∧ q.2.1 = s ∧ q.2.2.1 = e ∧ 0 ≤ q.2.2.2.toInt ∧ nu = nI (min 100000 q.2.2.2.toInt.toNat)) ∨ (q.1 = 1 ∧ q.2.1 = s ∧ q.2.2.1 = e ∧ ((so = 13 ∧ ∀ w, w < 13 → q.2.2.2.toInt ≠ tx_W.getD w 0) ∨ ∃ w, w < 13 ∧ so = nI w ∧ q.2.2.2.toInt = tx_W.getD w 0))
def TS (b : Nat → Int32) (T : Nat) (ν : gM) (L : Nat) : Prop := ν 0 0 = nI L ∧ 1 ≤ L ∧ L ≤ T + 1 ∧ prv ν 0 = 0 ∧ ∀ k, k < L → ∃ s e : Nat, ν 2 k = nI s ∧ s ≤ T ∧ prv ν k ≤ T ∧ TQ (ν 1 k) (ν 4 k) s e (tkn b T (prv ν k)) ∧ (k + 1 = L ↔ ν 1 k = 17) ∧ (ν 1 k ≠ 17 → prv ν (k + 1) = e)
theorem read_TS {σ : gM} {β b : Nat → Int32} {T : Nat} (hT : T ≤ 120) (h5 : σ 5 0 = nI T) (h6 : σ 6 = β) (hb : ∀ j, j < T → b j = β j) (hb2 : b T = -1) (hn : ∀ j, j < 121 → NB 100000 (σ 4 j)) : ∃ L, TS b T (x_readFrom5 σ) L ∧ (∀ j, j < 121 → NB 100000 ((x_readFrom5 σ) 4 j)) := by
  have I0 : INV β T 0 0 18 (mset σ 0 0 0) := by
    refine ⟨by rw [mset_at, upd_at]; rfl, Nat.le_refl _, by rw [mset_ne _ _ _ (by decide)]; exact h5, by rw [mset_ne _ _ _ (by decide)]; exact h6, (if_pos rfl).symm, fun k hk => by omega, Nat.le_of_eq (if_pos rfl), fun j h1 h2 => by omega, fun j hj => by rw [mset_ne _ _ _ (by decide)]; exact hn j hj⟩
  obtain ⟨c, before, τ, I, er⟩ := readL (σ := σ) hT T 0 0 18 _ (by omega) I0
  obtain ⟨i0, i1, i2, i3, i4, i5, i6, i7, i8⟩ := I
  obtain ⟨g0, g1, g2, g3, g4, gk⟩ := begin_is (so := 17) (i := T) i0 (by omega)
  have er2 : x_readFrom5 σ = x_nameWords5_L2 (x_begin5 τ 17 (nI T)) (c + 1) 0 (x_begin5 τ 17 (nI T)) := by
    unfold x_readFrom5
    rw [h5, nN_nI (by omega), er]
    unfold x_nameWords5
    rw [g0, upd_at, nN_nI (by omega)]
  obtain ⟨w1, w2, w3⟩ := nameL2 (σ := x_begin5 τ 17 (nI T)) (c + 1) 0 (x_begin5 τ 17 (nI T))
  rw [← er2] at w1 w2 w3
  have r2 := (w1 2 (by decide)).trans g2
  have r3 := (w1 3 (by decide)).trans g3
  have r4 := (w1 4 (by decide)).trans g4
  have r0 := (w1 0 (by decide)).trans g0
  have p0 : ∀ k, k ≤ c → prv (x_readFrom5 σ) k = prv τ k := fun k hk => prv_cong (fun j hj => by rw [r3, upd_ne _ _ (by omega)])
  have bT : b T ≠ 32 := by rw [hb2]; decide
  have bL : m_letter (b T) ≤ 0 := by rw [hb2]; decide
  have bD : m_isDigit (b T) = 0 := by rw [hb2]; decide
  have so32 : ∀ x, x_sortOf5 x = 18 → x = 32 := fun x h => by
    rcases so_cases x with q | q | q | q | q
    · exact q.1
    · rw [q.2.1] at h; exact absurd h (by decide)
    · rw [q.2.2.1] at h; exact absurd h (by decide)
    · rw [q.2.2.1] at h; exact absurd h (by decide)
    · rw [q.2.2.1] at h; exact absurd h (by decide)
  refine ⟨c + 1, ⟨by rw [r0, upd_at], by omega, by omega, if_pos rfl, fun k hk => ?_⟩, fun j hj => ?_⟩
  · by_cases ek : k = c
    · subst ek
      refine ⟨T, T, by rw [r2, upd_at], Nat.le_refl _, by rw [p0 k (Nat.le_refl _)]; exact i6, ?_, ?_, ?_⟩
      · rw [p0 k (Nat.le_refl _)]
        have h17 : (x_begin5 τ 17 (nI T)) 1 k = 17 := by rw [g1, upd_at]
        have hs : (x_readFrom5 σ) 1 k = 17 := ((w3 k (Nat.zero_le _) (by omega)).1 (by rw [h17]; decide)).trans h17
        refine Or.inl ⟨hs, ?_⟩
        unfold tkn
        rw [scB_is bT _ _ (fun j h1 h2 => by rw [hb j h2]; exact so32 _ (i7 j h1 h2)) i6 (by omega), if_pos rfl]
      · have h17 : (x_begin5 τ 17 (nI T)) 1 k = 17 := by rw [g1, upd_at]
        have hs : (x_readFrom5 σ) 1 k = 17 := ((w3 k (Nat.zero_le _) (by omega)).1 (by rw [h17]; decide)).trans h17
        exact ⟨fun _ => hs, fun _ => rfl⟩
      · have h17 : (x_begin5 τ 17 (nI T)) 1 k = 17 := by rw [g1, upd_at]
        have hs : (x_readFrom5 σ) 1 k = 17 := ((w3 k (Nat.zero_le _) (by omega)).1 (by rw [h17]; decide)).trans h17
        exact fun q => absurd hs q
    · have hk' : k < c := by omega
      obtain ⟨s, e, a1, a2, a3, a4, a5, a6, a7, a8, a9, a10, a11⟩ := i5 k hk'
      have g1k : (x_begin5 τ 17 (nI T)) 1 k = τ 1 k := by rw [g1, upd_ne _ _ ek]
      have n := w3 k (Nat.zero_le _) (by omega)
      have hS : x_sortOf5 (β s) = τ 1 k := a7 s (Nat.le_refl _) a4
      have sB : scB b (T + 1 - prv τ k) (prv τ k) = s := scB_is (by
        rw [hb s (by omega)]
        intro q
        rw [q] at hS
        exact a11 (hS.symm.trans (by decide))) _ _ (fun j h1 h2 => by rw [hb j (by omega)]; exact so32 _ (a6 j h1 h2)) a3 (by omega)
      have he : e = T ∨ (e < T ∧ b e = β e) := by
        by_cases q : e = T
        · exact Or.inl q
        · exact Or.inr ⟨by omega, hb e (by omega)⟩
      have ps : prv (x_readFrom5 σ) (k + 1) = e := by
        rw [p0 _ (by omega)]
        unfold prv
        rw [if_neg (by omega), Nat.add_sub_cancel, a2, nN_nI (by omega)]
      refine ⟨s, e, by rw [r2, upd_ne _ _ ek]; exact a1, by omega, by rw [p0 k (by omega)]; omega, ?_⟩
      rw [p0 k (by omega), r4, upd_ne _ _ ek]
      have tk : tkn b T (prv τ k) = if b s = 59 then (3, s, s + 1, 0) else if m_letter (b s) ≤ 0 then (if m_isDigit (b s) = 0 then (4, s, s, 0) else (2, s, scN b (T + 1 - s) s 0)) else (1, s, scW b (T + 1 - s) s 0) := by
        unfold tkn
        rw [sB, if_neg (by omega)]
      rw [tk, hb s (by omega)]
      have keep : τ 1 k ≠ 13 → (x_readFrom5 σ) 1 k = τ 1 k := fun q => (n.1 (by rw [g1k]; exact q)).trans g1k
      rcases so_cases (β s) with q | q | q | q | q
      · exact absurd (hS.symm.trans q.2.1) a11
      · have so := hS.symm.trans q.2.1
        have e1 := a8 (by rw [so]; decide)
        have ks := keep (by rw [so]; decide)
        rw [ks, so, if_pos q.1]
        exact ⟨Or.inr (Or.inl ⟨rfl, by rw [e1]⟩), ⟨fun r => by omega, fun r => absurd r (by decide)⟩, fun _ => ps⟩
      · obtain ⟨q1, q2, q3, q4, q5, q6⟩ := q
        have so := hS.symm.trans q3
        have ks := keep (by rw [so]; decide)
        rw [ks, so, if_neg q2, if_pos q4, if_neg q5]
        have hd : ∀ j, s ≤ j → j < e → b j = β j ∧ x_sortOf5 (β j) = 14 := fun j h1 h2 => ⟨hb j (by omega), (a7 j h1 h2).trans so⟩
        have hend : m_isDigit (b e) = 0 := by
          rcases he with r | ⟨r1, r2⟩
          · rw [r]; exact bD
          · have := a9 (Or.inr so) r1
            rw [r2]
            rcases so_cases (β e) with v | v | v | v | v
            · exact v.2.2.2
            · exact v.2.2.2
            · exact absurd (v.2.2.1.trans so.symm) this
            · rename_i hh
              have : ¬ 57 < (β e).toInt → False := fun w => by omega
              unfold m_isDigit
              by_cases x1 : β e < 48
              · rw [if_pos x1]
              · rw [if_neg x1, if_pos (Int32.lt_iff_toInt_lt.mpr (by rw [show (57 : Int32).toInt = 57 from rfl]; omega))]
            · exact v.2.2.2.2
        obtain ⟨z1, z2, z3⟩ := scN_is hd hend (T + 1 - s) s 0 (Nat.le_refl _) (by omega) (by omega) (by decide) (by rw [Nat.sub_self]; rfl)
        exact ⟨Or.inr (Or.inr (Or.inr (Or.inl ⟨rfl, rfl, rfl, z1, z2, by rw [a10 so, z3]⟩))), ⟨fun r => by omega, fun r => absurd r (by decide)⟩, fun _ => ps⟩
      · obtain ⟨q1, q2, q3, q4, q5, q6, q7⟩ := q
        have so := hS.symm.trans q3
        rw [if_neg q2, if_neg q4]
        have hd : ∀ j, s ≤ j → j < e → b j = β j ∧ x_sortOf5 (β j) = 13 := fun j h1 h2 => ⟨hb j (by omega), (a7 j h1 h2).trans so⟩
        have hend : m_letter (b e) ≤ 0 := by
          rcases he with r | ⟨r1, r2⟩
          · rw [r]; exact bL
          · have := a9 (Or.inl so) r1
            rw [r2]
            rcases so_cases (β e) with v | v | v | v | v
            · exact v.2.2.1
            · exact v.2.2.1
            · exact v.2.2.2.1
            · exact absurd (v.2.2.1.trans so.symm) this
            · exact v.2.2.2.1
        obtain ⟨z1, z2⟩ := scW_is hd hend (T + 1 - s) s 0 (Nat.le_refl _) (by omega) (by omega) (by rw [Nat.sub_self]; rfl)
        have hsp : ∀ w, w < 13 → (SP (x_begin5 τ 17 (nI T)) k w ≠ 0 ↔ cf β s (e - s) = tx_W.getD w 0) := fun w hw => by
          rw [SP_iff hT ((congrFun (gk 5 (by decide)) 0).trans i2) ((gk 6 (by decide)).trans i3) (by rw [g2, upd_ne _ _ ek]; exact a1) (by rw [g3, upd_ne _ _ ek]; exact a2) a4 a5, ← pf_W w hw]
          exact (cf_iff hw _ (e - s) (Nat.le_refl _) (fun j hj => (a7 (s + j) (by omega) (by omega)).trans so)).symm
        have hso : ((x_readFrom5 σ) 1 k = 13 ∧ ∀ w, w < 13 → (scW b (T + 1 - s) s 0).2.toInt ≠ tx_W.getD w 0) ∨ ∃ w, w < 13 ∧ (x_readFrom5 σ) 1 k = nI w ∧ (scW b (T + 1 - s) s 0).2.toInt = tx_W.getD w 0 := by
          rcases n.2 (by rw [g1k]; exact so) with ⟨v1, v2⟩ | ⟨w, v1, v2, v3, v4⟩
          · refine Or.inl ⟨v2, fun w hw r => ?_⟩
            rw [z2] at r
            exact (hsp w hw).mpr (by omega) (v1 w (Nat.zero_le _) hw)
          · refine Or.inr ⟨w, v2, v4, ?_⟩
            rw [z2, (hsp w v2).mp v3]
        have n17 : (x_readFrom5 σ) 1 k ≠ 17 := by
          rcases hso with ⟨v1, -⟩ | ⟨w, v1, v2, -⟩
          · rw [v1]; decide
          · rw [v2]
            exact fun r => by have := (nI_eq (b := 17) (by omega) (by decide)).mp r; omega
        exact ⟨Or.inr (Or.inr (Or.inr (Or.inr ⟨rfl, rfl, z1, hso⟩))), ⟨fun r => by omega, fun r => absurd r n17⟩, fun _ => ps⟩
      · obtain ⟨q1, q2, q3, q4, q5⟩ := q
        have so := hS.symm.trans q3
        have ks := keep (by rw [so]; decide)
        rw [ks, so, if_neg q2, if_pos q4, if_pos q5]
        exact ⟨Or.inr (Or.inr (Or.inl ⟨rfl, rfl, rfl⟩)), ⟨fun r => by omega, fun r => absurd r (by decide)⟩, fun _ => ps⟩
  · rw [r4]
    by_cases ej : j = c
    · rw [ej, upd_at]; exact ⟨0, Nat.zero_le _, rfl⟩
    · rw [upd_ne _ _ ej]; exact i8 j hj
