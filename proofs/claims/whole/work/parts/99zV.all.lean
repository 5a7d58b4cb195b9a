/-! all the steps -/
section AL
variable {Z : pZ} {n : Nat}
theorem st0 (hn : 100000 ≤ n) : St0 n 1 331 (fun I _ O => RE tX I O ∧ WT Z O) := by
  intro I L O p1 ⟨h, w⟩
  obtain ⟨v, I1, I2, e1, e2, r⟩ := s_roll tXst h p1
  exact ⟨v, I1, I2, e1, e2, r, w⟩
theorem st1 (hn : 100000 ≤ n) : St1 n 1 331 (fun I _ O => RE tX I O ∧ WT Z O) := by
  intro I L O p1 p2 p3 ⟨h, w⟩
  obtain ⟨v, I1, I2, e1, e2, r⟩ := s_hole tXst h p1 p2 p3
  exact ⟨v, I1, I2, e1, e2, r, w⟩
theorem st2 (hn : 100000 ≤ n) : St2 n 1 331 (fun I _ O => RE tX I O ∧ WT Z O) := by
  intro I L O p1 p2 p3 ⟨h, w⟩
  obtain ⟨v, I1, I2, e1, e2, r⟩ := s_worn hn tXst h p1 p2 p3
  exact ⟨v, I1, I2, e1, e2, r, w⟩
theorem st3 (hn : 100000 ≤ n) : St3 n 1 331 (fun I _ O => RE tX I O ∧ WT Z O) := by
  intro I L O ⟨h, w⟩
  obtain ⟨v, I1, I2, e1, e2, r⟩ := s_child tXst h
  exact ⟨v, I1, I2, e1, e2, r, w⟩
theorem st4 (hn : 100000 ≤ n) : St4 n 1 331 (fun I _ O => RE tX I O ∧ WT Z O) := by
  intro I L O p1 p2 p3 p4 p5 ⟨h, w⟩
  obtain ⟨v, I1, I2, e1, e2, r⟩ := s_feed hn tXst h p1 p2 p3 p4 p5
  exact ⟨v, I1, I2, e1, e2, r, w⟩
theorem st5 (hn : 100000 ≤ n) : St5 n 1 331 (fun I _ O => RE tX I O ∧ WT Z O) := by
  intro I L O p1 ⟨h, w⟩
  obtain ⟨v, I1, I2, e1, e2, r⟩ := s_end tXst h p1
  exact ⟨v, I1, I2, e1, e2, r, w⟩
theorem st6 (hn : 100000 ≤ n) (h5 : Z[324]? = some (5, 8)) (h7 : ∀ t, t < 4 → Z[300 + 6 * t]? = some (7, 7)) : St6 n 1 331 (fun I _ O => RE tX I O ∧ WT Z O) := by
  intro I L O ⟨h, w⟩
  obtain ⟨v, I1, I2, L2, O1, e1, e2, r, q⟩ := s_text hn h L
  refine ⟨v, I1, I2, L2, O1, e1, e2, r, ?_⟩
  rcases q with rfl | ⟨t, ht, rfl⟩
  · exact w
  · exact wt_put (ci := 5) (n := 8) w h5 (by omega) (show tgT 5 1 = (7, 7) from rfl) (h7 t ht)
theorem st7 (hn : 100000 ≤ n) : St7 n 1 331 (fun I _ O => RE tX I O ∧ WT Z O) := by
  intro I L O p1 ⟨h, w⟩
  obtain ⟨v, e1, e2, r⟩ := s_fault h p1
  exact ⟨v, e1, e2, r, w⟩
theorem st8 (hn : 100000 ≤ n) : St8 n 1 331 (fun I _ O => RE tX I O ∧ WT Z O) := by
  intro I L O p1 ⟨h, w⟩
  obtain ⟨v, I1, I2, e1, e2, r⟩ := s_by tXst h p1
  exact ⟨v, I1, I2, e1, e2, r, w⟩
theorem st9 (hn : 100000 ≤ n) : St9 n 1 331 (fun I _ O => RE tX I O ∧ WT Z O) := by
  intro I L O p1 p2 ⟨h, w⟩
  obtain ⟨v, I1, I2, L2, e1, e2, r⟩ := s_play hn h L p1 p2
  exact ⟨v, I1, I2, L2, e1, e2, r, w⟩
theorem st10 (hn : 100000 ≤ n) : St10 n 1 331 (fun I _ O => RE tX I O ∧ WT Z O) := by
  intro I L O p1 p2 ⟨h, w⟩
  obtain ⟨v, I1, I2, e1, e2, r⟩ := s_patch hn tXst h p1 p2
  exact ⟨v, I1, I2, e1, e2, r, w⟩
theorem st11 (hn : 100000 ≤ n) : St11 n 1 331 (fun I _ O => RE tX I O ∧ WT Z O) := by
  intro I L O p1 p2 ⟨h, w⟩
  obtain ⟨v, I1, I2, e1, e2, r⟩ := s_forget hn tXst h p1 p2
  exact ⟨v, I1, I2, e1, e2, r, w⟩
theorem st12 (hn : 100000 ≤ n) : St12 n 1 331 (fun I _ O => RE tX I O ∧ WT Z O) := by
  intro I L O p1 ⟨h, w⟩
  obtain ⟨v, I1, I2, L2, e1, e2, r⟩ := s_sunday hn h L p1
  exact ⟨v, I1, I2, L2, e1, e2, r, w⟩
theorem st13 (hn : 100000 ≤ n) : St13 n 1 331 (fun I _ O => RE tX I O ∧ WT Z O) := by
  intro I L O p1 ⟨h, w⟩
  obtain ⟨v, I1, I2, L2, e1, e2, r⟩ := s_played hn h L p1
  exact ⟨v, I1, I2, L2, e1, e2, r, w⟩
theorem st14 (hn : 100000 ≤ n) : St14 n 1 331 (fun I _ O => RE tX I O ∧ WT Z O) := by
  intro I L O p1 p2 ⟨h, w⟩
  obtain ⟨v, I1, I2, L2, e1, e2, r⟩ := s_years hn h L p1 p2
  exact ⟨v, I1, I2, L2, e1, e2, r, w⟩
theorem st15 (hn : 100000 ≤ n) : St15 n 1 331 (fun I _ O => RE tX I O ∧ WT Z O) := by
  intro I L O ⟨h, w⟩
  obtain ⟨v, I1, I2, e1, e2, r⟩ := s_undo hn tXst h
  exact ⟨v, I1, I2, e1, e2, r, w⟩
theorem st16 (hn : 100000 ≤ n) : St16 n 1 331 (fun I _ O => RE tX I O ∧ WT Z O) := by
  intro I L O p1 p2 ⟨h, w⟩
  obtain ⟨v, I1, I2, L2, e1, e2, r⟩ := s_of hn h L p1 p2
  exact ⟨v, I1, I2, L2, e1, e2, r, w⟩
theorem st17 (hn : 100000 ≤ n) : St17 n 1 331 (fun I _ O => RE tX I O ∧ WT Z O) := by
  intro I L O p1 p2 ⟨h, w⟩
  obtain ⟨v, e1, e2, r⟩ := s_heard h p1 p2
  exact ⟨v, e1, e2, r, w⟩
theorem st18 (hn : 100000 ≤ n) : St18 n 1 331 (fun I _ O => RE tX I O ∧ WT Z O) := by
  intro I L O p1 p2 ⟨h, w⟩
  obtain ⟨v, I1, I2, L2, e1, e2, r⟩ := s_ofRoll hn h L p1 p2
  exact ⟨v, I1, I2, L2, e1, e2, r, w⟩
theorem st19 (hn : 100000 ≤ n) : St19 n 1 331 (fun I _ O => RE tX I O ∧ WT Z O) := by
  intro I L O p1 p2 p3 ⟨h, w⟩
  obtain ⟨v, I1, I2, L2, e1, e2, r⟩ := s_at hn h L p1 p2 p3
  exact ⟨v, I1, I2, L2, e1, e2, r, w⟩
theorem st20 (hn : 100000 ≤ n) : St20 n 1 331 (fun I _ O => RE tX I O ∧ WT Z O) := by
  intro I L O p1 p2 p3 b4 _ ⟨h, w⟩
  obtain ⟨v, I1, I2, L2, e1, e2, r⟩ := s_law hn h L p1 p2 p3 b4
  exact ⟨v, I1, I2, L2, e1, e2, r, w⟩
theorem st21 (hn : 100000 ≤ n) : St21 n 1 331 (fun I _ O => RE tX I O ∧ WT Z O) := by
  intro I L O p1 ⟨h, w⟩
  obtain ⟨v, e1, e2, r⟩ := s_is h p1
  exact ⟨v, e1, e2, r, w⟩
theorem st22 (hn : 100000 ≤ n) : St22 n 1 331 (fun I _ O => RE tX I O ∧ WT Z O) := by
  intro I L O p1 p2 ⟨h, w⟩
  obtain ⟨v, e1, e2, r⟩ := s_book h p1 p2
  exact ⟨v, e1, e2, r, w⟩
theorem st23 (hn : 100000 ≤ n) : St23 n 1 331 (fun I _ O => RE tX I O ∧ WT Z O) := by
  intro I L O p1 p2 p3 ⟨h, w⟩
  obtain ⟨v, I1, I2, L2, e1, e2, r⟩ := s_foretold hn h L p1 p2 p3
  exact ⟨v, I1, I2, L2, e1, e2, r, w⟩
theorem st24 (hn : 100000 ≤ n) : St24 n 1 331 (fun I _ O => RE tX I O ∧ WT Z O) := by
  intro I L O p1 p2 ⟨h, w⟩
  obtain ⟨v, I1, I2, e1, e2, r⟩ := s_edit hn tXst h p1 p2
  exact ⟨v, I1, I2, e1, e2, r, w⟩
theorem st25 (hn : 100000 ≤ n) : St25 n 1 331 (fun I _ O => RE tX I O ∧ WT Z O) := by
  intro I L O p1 p2 p3 ⟨h, w⟩
  obtain ⟨v, I1, I2, e1, e2, r⟩ := s_common hn tXst h p1 p2 p3
  exact ⟨v, I1, I2, e1, e2, r, w⟩
theorem st26 (hn : 100000 ≤ n) : St26 n 1 331 (fun I _ O => RE tX I O ∧ WT Z O) := by
  intro I L O p1 ⟨h, w⟩
  obtain ⟨v, I1, I2, e1, e2, r⟩ := s_phrase tXst h p1
  exact ⟨v, I1, I2, e1, e2, r, w⟩
theorem st27 (hn : 100000 ≤ n) : St27 n 1 331 (fun I _ O => RE tX I O ∧ WT Z O) := by
  intro I L O p1 p2 ⟨h, w⟩
  obtain ⟨v, I1, e1, e2, r⟩ := s_fits hn tXst h p1 p2
  exact ⟨v, I1, e1, e2, r, w⟩
theorem st28 (hn : 100000 ≤ n) : St28 n 1 331 (fun I _ O => RE tX I O ∧ WT Z O) := by
  intro I L O p1 ⟨h, w⟩
  obtain ⟨v, I1, e1, e2, r⟩ := s_nearest hn tXst h p1
  exact ⟨v, I1, e1, e2, r, w⟩
theorem st29 (hn : 100000 ≤ n) : St29 n 1 331 (fun I _ O => RE tX I O ∧ WT Z O) := by
  intro I L O p1 b2 _ ⟨h, w⟩
  obtain ⟨v, I1, e1, e2, r⟩ := s_motif hn tXst h p1 b2
  exact ⟨v, I1, e1, e2, r, w⟩
theorem st30 (hn : 100000 ≤ n) : St30 n 1 331 (fun I _ O => RE tX I O ∧ WT Z O) := by
  intro I L O p1 b2 _ ⟨h, w⟩
  obtain ⟨v, I1, e1, e2, r⟩ := s_mirror hn tXst h p1 b2
  exact ⟨v, I1, e1, e2, r, w⟩
theorem st31 (hn : 100000 ≤ n) : St31 n 1 331 (fun I _ O => RE tX I O ∧ WT Z O) := by
  intro I L O p1 p2 p3 ⟨h, w⟩
  obtain ⟨v, I1, e1, e2, r⟩ := s_clash hn tXst h p1 p2 p3
  exact ⟨v, I1, e1, e2, r, w⟩
theorem st32 (hn : 100000 ≤ n) : St32 n 1 331 (fun I _ O => RE tX I O ∧ WT Z O) := by
  intro I L O p1 p2 ⟨h, w⟩
  obtain ⟨v, I1, e1, e2, r⟩ := s_together hn tXst h p1 p2
  exact ⟨v, I1, e1, e2, r, w⟩
theorem st33 (hn : 100000 ≤ n) : St33 n 1 331 (fun I _ O => RE tX I O ∧ WT Z O) := by
  intro I L O p1 p2 ⟨h, w⟩
  obtain ⟨v, I1, I2, e1, e2, r⟩ := s_stair hn h p1 p2
  exact ⟨v, I1, I2, e1, e2, r, w⟩
theorem st34 (hn : 100000 ≤ n) : St34 n 1 331 (fun I _ O => RE tX I O ∧ WT Z O) := by
  intro I L O p1 ⟨h, w⟩
  obtain ⟨v, I1, I2, e1, e2, r⟩ := s_fills hn h p1
  exact ⟨v, I1, I2, e1, e2, r, w⟩
theorem st35 (hn : 100000 ≤ n) : St35 n 1 331 (fun I _ O => RE tX I O ∧ WT Z O) := by
  intro I L O p1 p2 p3 ⟨h, w⟩
  obtain ⟨v, I1, I2, L2, e1, e2, r⟩ := s_teaches hn h L p1 p2 p3
  exact ⟨v, I1, I2, L2, e1, e2, r, w⟩
theorem st36 (hn : 100000 ≤ n) : St36 n 1 331 (fun I _ O => RE tX I O ∧ WT Z O) := by
  intro I L O p1 p2 p3 p4 b5 _ ⟨h, w⟩
  obtain ⟨v, I1, I2, L1, L2, e1, e2, r⟩ := s_likely hn h L p1 p2 p3 p4 b5
  exact ⟨v, I1, I2, L1, L2, e1, e2, r, w⟩
theorem st37 (hn : 100000 ≤ n) : St37 n 1 331 (fun I _ O => RE tX I O ∧ WT Z O) := by
  intro I L O p1 ⟨h, w⟩
  obtain ⟨v, I1, e1, e2, r⟩ := s_parts hn tXst h p1
  exact ⟨v, I1, e1, e2, r, w⟩
theorem st38 (hn : 100000 ≤ n) : St38 n 1 331 (fun I _ O => RE tX I O ∧ WT Z O) := by
  intro I L O ⟨h, w⟩
  obtain ⟨v, I1, I2, e1, e2, r⟩ := s_alike hn tXst h
  exact ⟨v, I1, I2, e1, e2, r, w⟩
theorem st39 (hn : 100000 ≤ n) : St39 n 1 331 (fun I _ O => RE tX I O ∧ WT Z O) := by
  intro I L O p1 p2 p3 ⟨h, w⟩
  obtain ⟨v, I1, I2, e1, e2, r⟩ := s_said tXst h p1 p2 p3
  exact ⟨v, I1, I2, e1, e2, r, w⟩
theorem st40 (hn : 100000 ≤ n) : St40 n 1 331 (fun I _ O => RE tX I O ∧ WT Z O) := by
  intro I L O ⟨h, w⟩
  obtain ⟨v, I1, I2, L2, e1, e2, r⟩ := s_whose hn h L
  exact ⟨v, I1, I2, L2, e1, e2, r, w⟩
theorem st41 (hn : 100000 ≤ n) : St41 n 1 331 (fun I _ O => RE tX I O ∧ WT Z O) := by
  intro I L O ⟨h, w⟩
  obtain ⟨v, I1, I2, L2, e1, e2, r⟩ := s_best hn h L
  exact ⟨v, I1, I2, L2, e1, e2, r, w⟩
theorem st42 (hn : 100000 ≤ n) : St42 n 1 331 (fun I _ O => RE tX I O ∧ WT Z O) := by
  intro I L O ⟨h, w⟩
  obtain ⟨v, e1, e2, r⟩ := s_loved hn h
  exact ⟨v, e1, e2, r, w⟩
theorem st43 (hn : 100000 ≤ n) : St43 n 1 331 (fun I _ O => RE tX I O ∧ WT Z O) := by
  intro I L O ⟨h, w⟩
  obtain ⟨v, e1, e2, r⟩ := s_dumb hn h
  exact ⟨v, e1, e2, r, w⟩
theorem st44 (hn : 100000 ≤ n) : St44 n 1 331 (fun I _ O => RE tX I O ∧ WT Z O) := by
  intro I L O p1 ⟨h, w⟩
  obtain ⟨v, e1, e2, r⟩ := s_ledger hn h p1
  exact ⟨v, e1, e2, r, w⟩
theorem st45 (hn : 100000 ≤ n) : St45 n 1 331 (fun I _ O => RE tX I O ∧ WT Z O) := by
  intro I L O ⟨h, w⟩
  obtain ⟨v, I1, I2, e1, e2, r⟩ := s_image hn tXst h
  exact ⟨v, I1, I2, e1, e2, r, w⟩
theorem st46 (hn : 100000 ≤ n) : St46 n 1 331 (fun I _ O => RE tX I O ∧ WT Z O) := by
  intro I L O ⟨h, w⟩
  obtain ⟨v, I1, I2, e1, e2, r⟩ := s_back hn tXst h
  exact ⟨v, I1, I2, e1, e2, r, w⟩
theorem st47 (hn : 100000 ≤ n) : St47 n 1 331 (fun I _ O => RE tX I O ∧ WT Z O) := by
  intro I L O p1 ⟨h, w⟩
  obtain ⟨v, e1, e2, r⟩ := s_about h p1
  exact ⟨v, e1, e2, r, w⟩
theorem all_st (hn : 100000 ≤ n) (h5 : Z[324]? = some (5, 8)) (h7 : ∀ t, t < 4 → Z[300 + 6 * t]? = some (7, 7)) : AllSt n 1 331 (fun I _ O => RE tX I O ∧ WT Z O) :=
  ⟨st0 hn, st1 hn, st2 hn, st3 hn, st4 hn, st5 hn, st6 hn h5 h7, st7 hn, st8 hn, st9 hn, st10 hn, st11 hn, st12 hn, st13 hn, st14 hn, st15 hn, st16 hn, st17 hn, st18 hn, st19 hn, st20 hn, st21 hn, st22 hn, st23 hn, st24 hn, st25 hn, st26 hn, st27 hn, st28 hn, st29 hn, st30 hn, st31 hn, st32 hn, st33 hn, st34 hn, st35 hn, st36 hn, st37 hn, st38 hn, st39 hn, st40 hn, st41 hn, st42 hn, st43 hn, st44 hn, st45 hn, st46 hn, st47 hn⟩
end AL
