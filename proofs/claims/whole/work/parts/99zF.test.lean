/-! the reference reads a law: what it asks of a token -/
theorem TkR_sg {k t x c : Nat} (h : TkR k t x) (hc : sgB c = true) : t = c ↔ k = c := by
  have sc := sg_in hc
  unfold TkR at h
  rcases h with ⟨h1, h2⟩ | ⟨h1, h2⟩ | ⟨h1, h2, -⟩ | ⟨h1, h2 | ⟨h2, -⟩⟩ | ⟨h1, h2⟩ | ⟨h1, h2⟩ | ⟨h1, h2⟩
  all_goals omega
theorem TkR_nm {k t x : Nat} (h : TkR k t x) : (t = 1 ↔ k = 28) ∧ (t = 0 ↔ k = 27) ∧ (t = 4 ↔ k = 316) ∧ (t = 5 ↔ k = 318) ∧ (t = 2 → k ≤ 26) ∧ (k < 26 → t = 2 ∧ x = pkW k) := by
  unfold TkR at h
  rcases h with ⟨h1, h2⟩ | ⟨h1, h2⟩ | ⟨h1, h2, h3⟩ | ⟨h1, h2 | ⟨h2, h3⟩⟩ | ⟨h1, h2⟩ | ⟨h1, h2⟩ | ⟨h1, h2⟩
  · refine ⟨?_, ?_, ?_, ?_, ?_, ?_⟩ <;> omega
  · refine ⟨?_, ?_, ?_, ?_, ?_, ?_⟩ <;> omega
  · refine ⟨?_, ?_, ?_, ?_, ?_, fun _ => ⟨h2, h3⟩⟩ <;> omega
  · refine ⟨?_, ?_, ?_, ?_, ?_, ?_⟩ <;> omega
  · refine ⟨?_, ?_, ?_, ?_, ?_, ?_⟩ <;> omega
  · refine ⟨?_, ?_, ?_, ?_, ?_, ?_⟩ <;> omega
  · refine ⟨?_, ?_, ?_, ?_, ?_, ?_⟩ <;> omega
  · have := sg_in h1
    refine ⟨?_, ?_, ?_, ?_, ?_, ?_⟩ <;> omega
section TT
variable {n : Nat} {J : TI} {L : TL} {O : TO} {B : TN} {z i s : Nat}
theorem tk_sg (h : RT J L B z i) (c : Nat) (hc : sgB c = true) : J 331 9 = nI c ↔ kdT B z i = c := by
  obtain ⟨-, -, -, ⟨t, x, h1, h2, -, -, h3⟩, -⟩ := h
  have sc := sg_in hc
  rw [h1, nI_eq (by omega) (by omega)]
  exact TkR_sg h3 hc
theorem tk_1 (h : RT J L B z i) : J 331 9 = 1 ↔ kdT B z i = 28 := by
  obtain ⟨-, -, -, ⟨t, x, h1, h2, -, -, h3⟩, -⟩ := h
  rw [h1, show (1 : Int32) = nI 1 from rfl, nI_eq (by omega) (by omega)]
  exact (TkR_nm h3).1
theorem tk_0 (h : RT J L B z i) : J 331 9 = 0 ↔ kdT B z i = 27 := by
  obtain ⟨-, -, -, ⟨t, x, h1, h2, -, -, h3⟩, -⟩ := h
  rw [h1, show (0 : Int32) = nI 0 from rfl, nI_eq (by omega) (by omega)]
  exact (TkR_nm h3).2.1
theorem tk_4 (h : RT J L B z i) : J 331 9 = 4 ↔ kdT B z i = 316 := by
  obtain ⟨-, -, -, ⟨t, x, h1, h2, -, -, h3⟩, -⟩ := h
  rw [h1, show (4 : Int32) = nI 4 from rfl, nI_eq (by omega) (by omega)]
  exact (TkR_nm h3).2.2.1
theorem tk_5 (h : RT J L B z i) : J 331 9 = 5 ↔ kdT B z i = 318 := by
  obtain ⟨-, -, -, ⟨t, x, h1, h2, -, -, h3⟩, -⟩ := h
  rw [h1, show (5 : Int32) = nI 5 from rfl, nI_eq (by omega) (by omega)]
  exact (TkR_nm h3).2.2.2.1
theorem tk_2 (h : RT J L B z i) : (J 331 9 = 2 ∧ ∃ x, x < 2 ^ 63 ∧ L 331 11 = lN x ∧ ∀ j, j < 26 → (x = pkW j ↔ kdT B z i = j)) ∨ (¬ J 331 9 = 2 ∧ 26 ≤ kdT B z i) := by
  obtain ⟨-, -, -, ⟨t, x, h1, h2, hx, h4, h3⟩, -⟩ := h
  rw [h1, show (2 : Int32) = nI 2 from rfl, nI_eq (by omega) (by omega)]
  by_cases w : t = 2
  · refine Or.inl ⟨w, x, hx, h4 w, fun j hj => ?_⟩
    unfold TkR at h3
    rcases h3 with ⟨g1, g2⟩ | ⟨g1, g2⟩ | ⟨g1, g2, g3⟩ | ⟨g1, g2 | ⟨g2, g3⟩⟩ | ⟨g1, g2⟩ | ⟨g1, g2⟩ | ⟨g1, g2⟩
    · omega
    · omega
    · rw [g3]
      exact ⟨fun g => pk_dist _ g1 j hj g, fun g => by rw [g]⟩
    · omega
    · exact ⟨fun g => absurd g (g3 j hj), fun g => by omega⟩
    · omega
    · omega
    · have := sg_in g1; omega
  · refine Or.inr ⟨w, ?_⟩
    have := (TkR_nm h3).2.2.2.2.2
    by_cases y : kdT B z i < 26
    · exact absurd (this y).1 w
    · omega
theorem tk_w (h : RT J L B z i) {j : Nat} (hj : j < 26) : f12_isWord J L 331 (lN (pkW j)) = some (if kdT B z i = j then 1 else 0) := by
  have pj := pk_lt63 j hj
  rw [f12_isWord]
  rcases tk_2 h with ⟨a1, x, a2, a3, a4⟩ | ⟨a1, a2⟩
  · rw [if_pos a1, a3]
    by_cases w : kdT B z i = j
    · rw [if_pos ((lg_cmp_eq _ _).mpr (by rw [(a4 j hj).mpr w])), if_pos w]
    · rw [if_neg (fun g => w ((a4 j hj).mp ((pk_lEQ a2 (by omega)).mp ((lg_cmp_eq _ _).mp g)))), if_neg w]
  · rw [if_neg a1, if_neg (by omega)]
theorem w_c : f12_w5 98 108 117 114 115 = some (lN (pkW 0)) ∧ f12_w6 108 101 97 114 110 115 = some (lN (pkW 1)) ∧ f12_w5 119 101 97 114 115 = some (lN (pkW 2)) ∧ f12_w5 99 104 105 108 100 = some (lN (pkW 3)) ∧ f12_w4 112 108 97 121 = some (lN (pkW 4)) ∧ f12_w5 112 97 116 99 104 = some (lN (pkW 5)) ∧ f12_w6 102 111 114 103 101 116 = some (lN (pkW 6)) ∧ f12_w4 114 111 108 108 = some (lN (pkW 7)) ∧ f12_w6 115 117 110 100 97 121 = some (lN (pkW 8)) ∧ f12_w3 107 101 121 = some (lN (pkW 9)) ∧ f12_w3 119 104 111 = some (lN (pkW 10)) ∧ f12_w5 104 101 97 114 100 = some (lN (pkW 11)) ∧ f12_w5 112 108 97 99 101 = some (lN (pkW 12)) ∧ f12_w4 119 101 97 114 = some (lN (pkW 13)) := by decide +kernel
theorem w_d : f12_w6 100 105 103 105 116 115 = some (lN (pkW 14)) ∧ f12_w5 104 111 108 101 115 = some (lN (pkW 15)) ∧ f12_w2 105 102 = some (lN (pkW 16)) ∧ f12_w4 116 104 101 110 = some (lN (pkW 17)) ∧ f12_w4 101 108 115 101 = some (lN (pkW 18)) ∧ f12_w3 101 110 100 = some (lN (pkW 19)) ∧ f12_w2 111 114 = some (lN (pkW 20)) ∧ f12_w3 97 110 100 = some (lN (pkW 21)) ∧ f12_w3 110 111 116 = some (lN (pkW 22)) ∧ f12_w2 116 111 = some (lN (pkW 23)) ∧ f12_w2 111 102 = some (lN (pkW 24)) ∧ f12_w2 98 121 = some (lN (pkW 25)) := by decide +kernel
theorem tk_name (h : RT J L B z i) : f12_nameOf J L 331 = some (if 7 ≤ kdT B z i ∧ kdT B z i ≤ 13 then nI (nmX (kdT B z i - 7)) else -1) := by
  obtain ⟨-, -, -, -, -, -, -, c7, c8, c9, c10, c11, c12, c13⟩ := w_c
  rw [f12_nameOf]
  rcases tk_2 h with ⟨a1, x, a2, a3, a4⟩ | ⟨a1, a2⟩
  · have cmp : ∀ j, j < 26 → ((lg_cmp (lN x) (lN (pkW j))) = 0 ↔ kdT B z i = j) := fun j hj => by
      have pj := pk_lt63 j hj
      rw [lg_cmp_eq, pk_lEQ a2 (by omega)]
      exact a4 j hj
    rw [if_pos a1, a3, c8, qb]
    by_cases w8 : kdT B z i = 8
    · rw [if_pos ((cmp 8 (by omega)).mpr w8), w8]; rfl
    rw [if_neg (fun g => w8 ((cmp 8 (by omega)).mp g)), c9, qb]
    by_cases w9 : kdT B z i = 9
    · rw [if_pos ((cmp 9 (by omega)).mpr w9), w9]; rfl
    rw [if_neg (fun g => w9 ((cmp 9 (by omega)).mp g)), c10, qb]
    by_cases w10 : kdT B z i = 10
    · rw [if_pos ((cmp 10 (by omega)).mpr w10), w10]; rfl
    rw [if_neg (fun g => w10 ((cmp 10 (by omega)).mp g)), c11, qb]
    by_cases w11 : kdT B z i = 11
    · rw [if_pos ((cmp 11 (by omega)).mpr w11), w11]; rfl
    rw [if_neg (fun g => w11 ((cmp 11 (by omega)).mp g)), c7, qb]
    by_cases w7 : kdT B z i = 7
    · rw [if_pos ((cmp 7 (by omega)).mpr w7), w7]; rfl
    rw [if_neg (fun g => w7 ((cmp 7 (by omega)).mp g)), c12, qb]
    by_cases w12 : kdT B z i = 12
    · rw [if_pos ((cmp 12 (by omega)).mpr w12), w12]; rfl
    rw [if_neg (fun g => w12 ((cmp 12 (by omega)).mp g)), c13, qb]
    by_cases w13 : kdT B z i = 13
    · rw [if_pos ((cmp 13 (by omega)).mpr w13), w13]; rfl
    rw [if_neg (fun g => w13 ((cmp 13 (by omega)).mp g)), if_neg (by omega)]
  · rw [if_neg a1, if_neg (by omega)]
theorem tk_of (h14 : J 331 14 = nI s) (hs : s < 3) {c : Nat} (hc : c < 7) : f12_isOf J 331 (nI (nmX c)) = some (if okN s (nmX c) then 1 else 0) := by
  rw [f12_isOf, h14]
  have : ∀ s, s < 3 → ∀ c, c < 7 → (if nI (nmX c) < (2 : Int32) then some (1 : Int32) else (if (4 : Int32) ≤ nI (nmX c) then (if nI s = (1 : Int32) then some 0 else some 1) else (if nI s = (2 : Int32) then some 0 else some 1))) = some (if okN s (nmX c) then 1 else 0) := by decide +kernel
  exact this s hs c hc
theorem kd_T {T : Nat} (hT : stT B z T = z) (hi : i ≤ T) (h : kdT B z i ≠ 27) : i < T := by
  by_cases w : i = T
  · exact absurd (by unfold kdT tkK; rw [w, hT, if_pos (Nat.le_refl _)]) h
  · omega
end TT
