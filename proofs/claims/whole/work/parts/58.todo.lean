theorem eq_say {σ μ : gM} (h : R σ μ) (pl : Int32) (saying : Int32) : (x_say σ pl saying).1 = (m_say μ pl saying).1 ∧ R (x_say σ pl saying).2 (m_say μ pl saying).2 := by sorry
theorem eq_said {σ μ : gM} (h : R σ μ) (pl : Int32) : (x_said σ pl).1 = (m_said μ pl).1 ∧ R (x_said σ pl).2 (m_said μ pl).2 := by sorry
theorem eq_room {σ μ : gM} (h : R σ μ) (room : Int32) (what : Int32) : (x_room σ room what).1 = (m_room μ room what).1 ∧ R (x_room σ room what).2 (m_room μ room what).2 := by sorry
theorem eq_glove {σ μ : gM} (h : R σ μ) (kind : Int32) (room : Int32) : (x_glove σ kind room).1 = (m_glove μ kind room).1 ∧ R (x_glove σ kind room).2 (m_glove μ kind room).2 := by sorry
theorem eq_of {σ μ : gM} (h : R σ μ) (glove : Int32) (what : Int32) : (x_of σ glove what).1 = (m_of μ glove what).1 ∧ R (x_of σ glove what).2 (m_of μ glove what).2 := by sorry
theorem eq_change {σ μ : gM} (h : R σ μ) (glove : Int32) (what : Int32) (v : Int32) : (x_change σ glove what v).1 = (m_change μ glove what v).1 ∧ R (x_change σ glove what v).2 (m_change μ glove what v).2 := by sorry
theorem eq_draw {σ μ : gM} (h : R σ μ) (glove : Int32) : (x_draw σ glove).1 = (m_draw μ glove).1 ∧ R (x_draw σ glove).2 (m_draw μ glove).2 := by sorry
theorem eq_who {σ μ : gM} (h : R σ μ) (topic : Int32) (hand : Int32) : (x_who σ topic hand).1 = (m_who μ topic hand).1 ∧ R (x_who σ topic hand).2 (m_who μ topic hand).2 := by sorry
theorem eq_go {σ μ : gM} (h : R σ μ) (k : Int32) : (x_go σ k).1 = (m_go μ k).1 ∧ R (x_go σ k).2 (m_go μ k).2 := by sorry
theorem eq_now {σ μ : gM} (h : R σ μ) (what : Int32) : (x_now σ what).1 = (m_now μ what).1 ∧ R (x_now σ what).2 (m_now μ what).2 := by sorry
theorem eq_ahead {σ μ : gM} (h : R σ μ) (glove : Int32) (what : Int32) (k : Int32) : (x_ahead σ glove what k).1 = (m_ahead μ glove what k).1 ∧ R (x_ahead σ glove what k).2 (m_ahead μ glove what k).2 := by sorry
theorem eq_hears {σ μ : gM} (h : R σ μ) (glove : Int32) (v : Int32) : (x_hears σ glove v).1 = (m_hears μ glove v).1 ∧ R (x_hears σ glove v).2 (m_hears μ glove v).2 := by sorry
theorem eq_wise {σ μ : gM} (h : R σ μ) (glove : Int32) (v : Int32) : (x_wise σ glove v).1 = (m_wise μ glove v).1 ∧ R (x_wise σ glove v).2 (m_wise μ glove v).2 := by sorry
theorem eq_out {σ μ : gM} (h : R σ μ) (topics : Int32) : (x_out σ topics).1 = (m_out μ topics).1 ∧ R (x_out σ topics).2 (m_out μ topics).2 := by sorry
theorem eq_leave {σ μ : gM} (h : R σ μ) (glove : Int32) (k : Int32) : (x_leave σ glove k).1 = (m_leave μ glove k).1 ∧ R (x_leave σ glove k).2 (m_leave μ glove k).2 := by sorry
theorem eq_openFor {σ μ : gM} (h : R σ μ) (glove : Int32) (v : Int32) (k : Int32) : (x_openFor σ glove v k).1 = (m_openFor μ glove v k).1 ∧ R (x_openFor σ glove v k).2 (m_openFor μ glove v k).2 := by sorry
theorem eq_kindFor {σ μ : gM} (h : R σ μ) (glove : Int32) (k : Int32) : (x_kindFor σ glove k).1 = (m_kindFor μ glove k).1 ∧ R (x_kindFor σ glove k).2 (m_kindFor μ glove k).2 := by sorry
theorem eq_lower {σ μ : gM} (h : R σ μ) (pl : Int32) : (x_lower σ pl).1 = (m_lower μ pl).1 ∧ R (x_lower σ pl).2 (m_lower μ pl).2 := by sorry
theorem eq_cover {σ μ : gM} (h : R σ μ) (topics : Int32) : (x_cover σ topics).1 = (m_cover μ topics).1 ∧ R (x_cover σ topics).2 (m_cover μ topics).2 := by sorry
theorem eq_away {σ μ : gM} (h : R σ μ) (glove : Int32) (topic : Int32) (k : Int32) : (x_away σ glove topic k).1 = (m_away μ glove topic k).1 ∧ R (x_away σ glove topic k).2 (m_away μ glove topic k).2 := by sorry
theorem eq_fits {σ μ : gM} (h : R σ μ) (sn : Int32) (glove : Int32) : (x_fits σ sn glove).1 = (m_fits μ sn glove).1 ∧ R (x_fits σ sn glove).2 (m_fits μ sn glove).2 := by sorry
theorem eq_kinds {σ μ : gM} (h : R σ μ) (sn : Int32) (glove : Int32) : (x_kinds σ sn glove).1 = (m_kinds μ sn glove).1 ∧ R (x_kinds σ sn glove).2 (m_kinds μ sn glove).2 := by sorry
theorem eq_talk {σ μ : gM} (h : R σ μ) (k : Int32) : (x_talk σ k).1 = (m_talk μ k).1 ∧ R (x_talk σ k).2 (m_talk μ k).2 := by sorry
theorem eq_odds {σ μ : gM} (h : R σ μ) (glove : Int32) (k : Int32) (what : Int32) : (x_odds σ glove k what).1 = (m_odds μ glove k what).1 ∧ R (x_odds σ glove k what).2 (m_odds μ glove k what).2 := by sorry
theorem eq_seed {σ μ : gM} (h : R σ μ) (v : Int32) : (x_seed σ v).1 = (m_seed μ v).1 ∧ R (x_seed σ v).2 (m_seed μ v).2 := by sorry
theorem eq_feed {σ μ : gM} (h : R σ μ) (bytes : Int32) (k : Int32) : (x_feed σ bytes k).1 = (m_feed μ bytes k).1 ∧ R (x_feed σ bytes k).2 (m_feed μ bytes k).2 := by sorry
theorem eq_wipe {σ μ : gM} (h : R σ μ)  : (x_wipe σ).1 = (m_wipe μ).1 ∧ R (x_wipe σ).2 (m_wipe μ).2 := by sorry
theorem eq_text {σ μ : gM} (h : R σ μ)  : (x_text σ).1 = (m_text μ).1 ∧ R (x_text σ).2 (m_text μ).2 := by sorry
theorem eq_hold {σ μ : gM} (h : R σ μ) (spot : Int32) (glove : Int32) : (x_hold σ spot glove).1 = (m_hold μ spot glove).1 ∧ R (x_hold σ spot glove).2 (m_hold μ spot glove).2 := by sorry
theorem eq_as {σ μ : gM} (h : R σ μ) (spot : Int32) (kind : Int32) : (x_as σ spot kind).1 = (m_as μ spot kind).1 ∧ R (x_as σ spot kind).2 (m_as μ spot kind).2 := by sorry
theorem eq_sheet {σ μ : gM} (h : R σ μ) (sn : Int32) (bits : Int32) (size : Int32) : (x_sheet σ sn bits size).1 = (m_sheet μ sn bits size).1 ∧ R (x_sheet σ sn bits size).2 (m_sheet μ sn bits size).2 := by sorry
theorem eq_write {σ μ : gM} (h : R σ μ) (sn : Int32) (ix : Int32) (v : Int32) : (x_write σ sn ix v).1 = (m_write μ sn ix v).1 ∧ R (x_write σ sn ix v).2 (m_write μ sn ix v).2 := by sorry
theorem eq_copy {σ μ : gM} (h : R σ μ) (sn : Int32) (frm : Int32) (tn : Int32) (to : Int32) (cnt : Int32) : (x_copy σ sn frm tn to cnt).1 = (m_copy μ sn frm tn to cnt).1 ∧ R (x_copy σ sn frm tn to cnt).2 (m_copy μ sn frm tn to cnt).2 := by sorry
theorem eq_load {σ μ : gM} (h : R σ μ) (sn : Int32) : (x_load σ sn).1 = (m_load μ sn).1 ∧ R (x_load σ sn).2 (m_load μ sn).2 := by sorry
theorem eq_judge {σ μ : gM} (h : R σ μ) (sn : Int32) : (x_judge σ sn).1 = (m_judge μ sn).1 ∧ R (x_judge σ sn).2 (m_judge μ sn).2 := by sorry
theorem eq_image {σ μ : gM} (h : R σ μ)  : (x_image σ).1 = (m_image μ).1 ∧ R (x_image σ).2 (m_image μ).2 := by sorry
theorem eq_undo {σ μ : gM} (h : R σ μ)  : (x_undo σ).1 = (m_undo μ).1 ∧ R (x_undo σ).2 (m_undo μ).2 := by sorry
theorem eq_tear {σ μ : gM} (h : R σ μ)  : (x_tear σ).1 = (m_tear μ).1 ∧ R (x_tear σ).2 (m_tear μ).2 := by sorry
theorem eq_count {σ μ : gM} (h : R σ μ) (what : Int32) : (x_count σ what).1 = (m_count μ what).1 ∧ R (x_count σ what).2 (m_count μ what).2 := by sorry
theorem eq_status {σ μ : gM} (h : R σ μ) (which : Int32) : (x_status σ which).1 = (m_status μ which).1 ∧ R (x_status σ which).2 (m_status μ which).2 := by sorry
theorem rf_tok {σ μ : gM} (h : R σ μ) : ∃ L2, L2 ≤ 121 ∧ (x_readFrom5 (mget σ 37)) 0 0 = nI L2 ∧ ∀ j, j < 121 → ¬ (x_readFrom5 (mget σ 37)) 4 j < 0 := by sorry
theorem R_start : R sX0 sM0 := by sorry
