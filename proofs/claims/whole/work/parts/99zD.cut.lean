/-! the tape's tokens: the class cuts -/
theorem nI_mx {a b : Nat} (ha : a < 2147483648) (hb : b < 2147483648) : fJ9_max_7cf53 (nI a) (nI b) = some (nI (max a b)) := by
  unfold fJ9_max_7cf53
  by_cases w : a < b
  · rw [if_pos ((nI_ltI ha hb).mpr w), Nat.max_eq_right (by omega)]
  · rw [if_neg (fun g => w ((nI_ltI ha hb).mp g)), Nat.max_eq_left (by omega)]
section CU
variable {n : Nat} {O : TO} {B : TN} {z : Nat} {I0 : TI}
def atI (I : TI) (t k s v : Nat) : TI := sI (sI (sI (sI I 280 t (nI k)) 281 t (nI s)) 282 t (nI v)) 278 5 (nI (t + 1))
theorem x_addTok (hO : OF O) {I : TI} {t : Nat} (h5 : I 278 5 = nI t) (ht : t ≤ 300) (k s v : Nat) : f8_addToken I O 278 (nI k) (nI s) (nI v) = some (atI I t k s v) := by
  have ng : ¬ (nI t < 0 ∨ 301 ≤ (nI t).toNatClampNeg) := nI_in (by omega) (by omega)
  unfold atI
  rw [f8_addToken, h5, if_neg (fun g => by have := (nI_ltI (b := 0) (by omega) (by omega)).mp g; omega), if_neg (fun g => by have := (nI_ltI (a := 300) (by omega) (by omega)).mp g; omega), if_neg ng, o_278_1 hO, o_278_2 hO, o_278_3 hO, qbl, sI_o _ _ (show 278 ≠ 280 by omega), h5, if_neg ng, qbl, sI_o _ _ (show 278 ≠ 281 by omega), sI_o _ _ (show 278 ≠ 280 by omega), h5, if_neg ng, qbl, sI_o _ _ (show 278 ≠ 282 by omega), sI_o _ _ (show 278 ≠ 281 by omega), sI_o _ _ (show 278 ≠ 280 by omega), h5, qbl, nI_1, qcl (by omega)]
def CtI (I0 I : TI) (B : TN) (z t : Nat) : Prop := (∀ a, a ≠ 278 → a ≠ 280 → a ≠ 281 → a ≠ 282 → I a = I0 a) ∧ (∀ k, k ≠ 5 → I 278 k = I0 278 k) ∧ I 278 5 = nI t ∧ ∀ i, i < t → I 280 i = nI (kdT B z i) ∧ I 281 i = nI (stT B z i) ∧ I 282 i = nI (min 10000 (nvT B z i))
theorem Ct_add {I : TI} {t : Nat} (h : CtI I0 I B z t) {k s v : Nat} (hk : k = kdT B z t) (hs : s = stT B z t) (hv : v = min 10000 (nvT B z t)) : CtI I0 (atI I t k s v) B z (t + 1) := by
  obtain ⟨h1, h2, h3, h4⟩ := h
  unfold atI
  refine ⟨fun a g1 g2 g3 g4 => by rw [sI_o _ _ g1, sI_o _ _ g4, sI_o _ _ g3, sI_o _ _ g2]; exact h1 a g1 g2 g3 g4, fun j hj => by rw [sI_k _ _ hj, sI_o _ _ (by omega), sI_o _ _ (by omega), sI_o _ _ (by omega)]; exact h2 j hj, sI_s _ _ _ _, fun i hi => ?_⟩
  rw [sI_o _ _ (show 280 ≠ 278 by omega), sI_o _ _ (show 280 ≠ 282 by omega), sI_o _ _ (show 280 ≠ 281 by omega), sI_o _ _ (show 281 ≠ 278 by omega), sI_o _ _ (show 281 ≠ 282 by omega), sI_o _ _ (show 282 ≠ 278 by omega)]
  by_cases w : i = t
  · subst w
    rw [sI_s, sI_s, sI_s, hk, hs, hv]; exact ⟨rfl, rfl, rfl⟩
  · rw [sI_k _ _ w, sI_k _ _ w, sI_k _ _ w, sI_o _ _ (show 281 ≠ 280 by omega), sI_o _ _ (show 282 ≠ 281 by omega), sI_o _ _ (show 282 ≠ 280 by omega)]
    exact h4 i (by omega)
theorem BX_ct {I : TI} {t : Nat} (h0 : BX0 I0 B z) (h : CtI I0 I B z t) : BX0 I B z := by
  obtain ⟨a1, a2, a3⟩ := h0
  exact ⟨a1, by rw [h.2.1 4 (by omega)]; exact a2, fun p hp => by rw [h.1 279 (by omega) (by omega) (by omega) (by omega)]; exact a3 p hp⟩
theorem fn_le (l : List Nat) : fnW l wdT 0 ≤ 26 := by
  rcases fn_sp l wdT 0 rfl with ⟨a1, -⟩ | ⟨a1, -⟩ <;> omega
theorem x_cut9 (hn : 100000 ≤ n) (hO : OF O) (h0 : BX0 I0 B z) : ∀ d p m I t y1, p + d = z → d < m → CtI I0 I B z t → (∀ j, j < t → stT B z j < z) → psT B z t ≤ p → skP B z p = stT B z t → y1 ≤ p → ∃ I' T, f8_cut_c9 n O m I 278 (nI y1) (nI p) = some I' ∧ CtI I0 I' B z (T + 1) ∧ stT B z T = z ∧ ∀ j, j < T → stT B z j < z := by
  have z1 := h0.1
  intro d
  induction d using Nat.strongRecOn with
  | _ d ih =>
    intro p m I t y1 hp hm hC hj hps hsk hy
    obtain ⟨m, rfl⟩ : ∃ m', m = m' + 1 := ⟨m - 1, by omega⟩
    have hB := BX_ct h0 hC
    have tp := ps_i t hj
    have h4 := hB.2.1
    by_cases hz : p < z
    · obtain ⟨bb, be⟩ := hB.2.2 p hz
      have pre : f8_cut_c9 n O (m + 1) I 278 (nI y1) (nI p) = ((f8_isLetter (nI (B p))).bind fun r10 => (if r10 = 0 then (f8_isDigit (nI (B p))).bind fun r13 => (if r13 = 0 then (if nI (B p) = (60 : Int32) then f8_cut_c100 n O (f8_cut_c9 n O m) I 278 (nI y1) (nI p) (nI (B p)) else (if nI (B p) = (62 : Int32) then f8_cut_c100 n O (f8_cut_c9 n O m) I 278 (nI y1) (nI p) (nI (B p)) else f8_cut_c140 n O (f8_cut_c9 n O m) I 278 (nI y1) (nI p) (nI (B p)))) else (f8_numberEnd n I O 278 (nI p)).bind fun r18 => (f8_numberOf n I O 278 (nI p) r18).bind fun r20 => (f8_addToken I O 278 (28 : Int32) (nI p) r20).bind fun r22 => (fJ9_max_7cf53 (nI p + 1) r18).bind fun r24 => f8_cut_c9 n O m r22 278 r18 r24) else (f8_wordEnd n I O 278 (nI p)).bind fun r26 => (f8_wordNumber n I O 278 (nI p) r26).bind fun r28 => (f8_addToken I O 278 r28 (nI p) (0 : Int32)).bind fun r30 => (fJ9_max_7cf53 (nI p + 1) r26).bind fun r32 => f8_cut_c9 n O m r30 278 r26 r32)) := by
        rw [f8_cut_c9, h4, if_neg (nle_i (by omega) (by omega) hz), if_neg (show ¬ (300 : Int32) ≤ nI p from nle_i (a := 300) (by omega) (by omega) (by omega)), if_neg (nI_in (by omega) (by omega)), o_278_0 hO, qcl (by omega), be, qbl]
      have skn : bkB (B p) = false → skP B z p = p := fun g => by
        unfold skP
        rw [show z - p = (z - p - 1) + 1 by omega]
        show (if bkB (B p) then _ else p) = p
        rw [g]; rfl
      -- a token that ends at e
      have tok : bkB (B p) = false → ∀ e y k v I1, I1 = atI I t k p v → k = tkK B z p → v = min 10000 (tkV B z p) → e = tkE B z p → y ≤ e → ∃ I' T, f8_cut_c9 n O m I1 278 (nI y) (nI e) = some I' ∧ CtI I0 I' B z (T + 1) ∧ stT B z T = z ∧ ∀ j, j < T → stT B z j < z := by
        intro g e y k v I1 e1 e2 e3 e4 e5
        have es : stT B z t = p := by rw [← hsk, skn g]
        have ep : psT B z (t + 1) = e := by
          rw [e4, ← es]; rfl
        have el := tkE_le (B := B) (z := z) (s := p) (by omega)
        subst e1
        refine ih (z - e) (by omega) e m (atI I t k p v) (t + 1) y (by omega) (by omega) (Ct_add hC ?_ es.symm ?_) (fun j hj' => ?_) (by omega) ?_ e5
        · rw [e2]; unfold kdT; rw [es]
        · rw [e3]; unfold nvT; rw [es]
        · by_cases w : j = t
          · rw [w, es]; exact hz
          · exact hj j (by omega)
        · rw [← ep]; rfl
      rw [pre, (ch_x _ bb).1, qb]
      cases hl : ltB (B p)
      · rw [if_pos (by decide), (ch_x _ bb).2.1, qb]
        cases hd : dgB (B p)
        · rw [if_pos (by decide)]
          -- neither a word nor a number
          have eK : tkK B z p = if twB B z p then 256 + B p else if sgB (B p) then B p else 26 := by
            unfold tkK
            rw [if_neg (by omega), hl, if_neg (by decide), hd, if_neg (by decide)]
          have eE : tkE B z p = if twB B z p then p + 2 else p + 1 := by
            unfold tkE
            rw [if_neg (by omega), hl, if_neg (by decide), hd, if_neg (by decide)]
          have eV : tkV B z p = 0 := by
            unfold tkV
            rw [if_neg (by omega), hl, if_neg (by decide), hd, if_neg (by decide)]
          have one : twB B z p = false → ∃ I' T, f8_cut_c140 n O (f8_cut_c9 n O m) I 278 (nI y1) (nI p) (nI (B p)) = some I' ∧ CtI I0 I' B z (T + 1) ∧ stT B z T = z ∧ ∀ j, j < T → stT B z j < z := by
            intro tw
            have mx : fJ9_max_7cf53 (nI (p + 1)) (nI y1) = some (nI (p + 1)) := by
              rw [nI_mx (by omega) (by omega), Nat.max_eq_left (by omega)]
            cases hb : bkB (B p)
            · have n32 : ¬ nI (B p) = (32 : Int32) := fun g => by
                rw [show (32 : Int32) = nI 32 from rfl, nI_eq (by omega) (by omega)] at g
                rw [((ch_dis _ bb).2.2.1).mpr (Or.inl g)] at hb; exact absurd hb (by decide)
              have n10 : ¬ nI (B p) = (10 : Int32) := fun g => by
                rw [show (10 : Int32) = nI 10 from rfl, nI_eq (by omega) (by omega)] at g
                rw [((ch_dis _ bb).2.2.1).mpr (Or.inr g)] at hb; exact absurd hb (by decide)
              rw [f8_cut_c140, if_neg n32, if_neg n10, (ch_x _ bb).2.2, qb, nI_1]
              cases hg : sgB (B p)
              · rw [if_pos (by decide), show f8_addToken I O 278 26 (nI p) 0 = _ from x_addTok hO hC.2.2.1 (by omega) 26 p 0, qb, mx, qb]
                exact tok hb (p + 1) y1 26 0 _ rfl (by rw [eK, tw, if_neg (by decide), hg, if_neg (by decide)]) (by rw [eV]; rfl) (by rw [eE, tw, if_neg (by decide)]) (by omega)
              · rw [if_neg (by decide), show f8_addToken I O 278 (nI (B p)) (nI p) 0 = _ from x_addTok hO hC.2.2.1 (by omega) (B p) p 0, qb, mx, qb]
                exact tok hb (p + 1) y1 (B p) 0 _ rfl (by rw [eK, tw, if_neg (by decide), hg, if_pos rfl]) (by rw [eV]; rfl) (by rw [eE, tw, if_neg (by decide)]) (by omega)
            · have sk1 : skP B z p = skP B z (p + 1) := by
                unfold skP
                rw [show z - p = (z - (p + 1)) + 1 by omega]
                show (if bkB (B p) then _ else p) = _
                rw [hb]; rfl
              have e : f8_cut_c140 n O (f8_cut_c9 n O m) I 278 (nI y1) (nI p) (nI (B p)) = f8_cut_c9 n O m I 278 (nI y1) (nI (p + 1)) := by
                rw [f8_cut_c140, nI_1, mx]
                rcases ((ch_dis _ bb).2.2.1).mp hb with g | g
                · rw [if_pos (show nI (B p) = 32 by rw [g]; rfl), qb]
                · rw [if_neg (show ¬ nI (B p) = 32 by rw [g]; decide), if_pos (show nI (B p) = 10 by rw [g]; rfl), qb]
              rw [e]
              exact ih (z - (p + 1)) (by omega) (p + 1) m I t y1 (by omega) (by omega) hC hj (by omega) (by rw [← sk1]; exact hsk) (by omega)
          have two : (B p = 60 ∨ B p = 62) → ∃ I' T, f8_cut_c100 n O (f8_cut_c9 n O m) I 278 (nI y1) (nI p) (nI (B p)) = some I' ∧ CtI I0 I' B z (T + 1) ∧ stT B z T = z ∧ ∀ j, j < T → stT B z j < z := by
            intro hc
            have hb : bkB (B p) = false := by rcases hc with g | g <;> rw [g] <;> rfl
            rw [f8_cut_c100, nI_1]
            by_cases hs1 : p + 1 < z
            · have b1 := (hB.2.2 (p + 1) hs1).1
              rw [x_byte hO hB hs1, qb]
              by_cases e61 : B (p + 1) = 61
              · have tw : twB B z p = true := by
                  unfold twB
                  rw [Bool.and_eq_true, Bool.and_eq_true, Bool.or_eq_true, beq_iff_eq, beq_iff_eq, beq_iff_eq, decide_eq_true_eq]
                  exact ⟨hc, hs1, e61⟩
                have mx : fJ9_max_7cf53 (nI (p + 1)) (nI (p + 2)) = some (nI (p + 2)) := by
                  rw [nI_mx (by omega) (by omega), Nat.max_eq_right (by omega)]
                have fin : ∀ k, k = 256 + B p → ∃ I' T, f8_cut_c132 n O (f8_cut_c9 n O m) I 278 (nI p + 2) (nI p) (nI k) 278 = some I' ∧ CtI I0 I' B z (T + 1) ∧ stT B z T = z ∧ ∀ j, j < T → stT B z j < z := by
                  intro k hk
                  rw [f8_cut_c132, show f8_addToken I O 278 (nI k) (nI p) 0 = _ from x_addTok hO hC.2.2.1 (by omega) k p 0, qb, nI_1, show nI p + 2 = nI (p + 2) from qadd p 2, mx, qb]
                  exact tok hb (p + 2) (p + 2) k 0 _ rfl (by rw [eK, tw, if_pos rfl]; exact hk) (by rw [eV]; rfl) (by rw [eE, tw, if_pos rfl]) (by omega)
                rw [if_pos (show nI (B (p + 1)) = 61 by rw [e61]; rfl)]
                by_cases c60 : B p = 60
                · rw [if_pos (show nI (B p) = 60 by rw [c60]; rfl)]; exact fin 316 (by omega)
                · rw [if_neg (show ¬ nI (B p) = 60 from fun g => c60 (by rw [show (60 : Int32) = nI 60 from rfl, nI_eq (by omega) (by omega)] at g; exact g))]; exact fin 318 (by omega)
              · rw [if_neg (show ¬ nI (B (p + 1)) = 61 from fun g => e61 (by rw [show (61 : Int32) = nI 61 from rfl, nI_eq (by omega) (by omega)] at g; exact g))]
                refine one ?_
                cases tw : twB B z p
                · rfl
                · exact absurd (twB_t tw).2.2 e61
            · rw [x_byte0 hB (by omega) (by omega), qb, if_neg (by decide)]
              refine one ?_
              cases tw : twB B z p
              · rfl
              · exact absurd (twB_t tw).2.1 hs1
          by_cases c60 : B p = 60
          · rw [if_pos (show nI (B p) = 60 by rw [c60]; rfl)]; exact two (Or.inl c60)
          · rw [if_neg (show ¬ nI (B p) = 60 from fun g => c60 (by rw [show (60 : Int32) = nI 60 from rfl, nI_eq (by omega) (by omega)] at g; exact g))]
            by_cases c62 : B p = 62
            · rw [if_pos (show nI (B p) = 62 by rw [c62]; rfl)]; exact two (Or.inr c62)
            · rw [if_neg (show ¬ nI (B p) = 62 from fun g => c62 (by rw [show (62 : Int32) = nI 62 from rfl, nI_eq (by omega) (by omega)] at g; exact g))]
              refine one ?_
              cases tw : twB B z p
              · rfl
              · have := (twB_t tw).1; omega
        · rw [if_neg (by decide)]
          have hb := ((ch_dis _ bb).1 hd).2
          have el := we_lt (q := dgB) hz hd
          have e1 := x_numEnd (n := n) hO hB (z - p) p n (by omega) (by omega)
          have ne : reF B dgB (z - p) p = neP B z p := rfl
          rw [ne] at e1 el
          have e2 := x_numOf (n := n) hO hB (neP B z p - p) p n 0 (by omega) (by omega) (by omega) (fun j h1 h2 => reF_q (z - p) p j h1 (by rw [ne]; omega))
          rw [show p + (neP B z p - p) = neP B z p by omega] at e2
          rw [f8_numberEnd, e1, qb, f8_numberOf, show f8_numberOf_c5 n I O n 278 (nI (neP B z p)) 0 (nI p) = _ from e2, qb, show f8_addToken I O 278 28 (nI p) _ = _ from x_addTok hO hC.2.2.1 (by omega) 28 p (min 10000 (nvF B (neP B z p - p) p 0)), qb, nI_1, nI_mx (by omega) (by omega), qb, Nat.max_eq_right (by omega)]
          exact tok hb (neP B z p) (neP B z p) 28 (min 10000 (nvF B (neP B z p - p) p 0)) _ rfl (by unfold tkK; rw [if_neg (by omega), hl, if_neg (by decide), if_pos hd]) (by unfold tkV; rw [if_neg (by omega), hl, if_neg (by decide), if_pos hd]) (by unfold tkE; rw [if_neg (by omega), hl, if_neg (by decide), if_pos hd]) (Nat.le_refl _)
      · rw [if_neg (by decide)]
        have hb := (ch_dis _ bb).2.1 hl
        obtain ⟨-, w1, w2, w3⟩ := we_ok (B := B) (z := z) (fun p hp => (hB.2.2 p hp).1) hz hl
        have e1 := x_wordEnd (n := n) hO hB (z - p) p n (by omega) (by omega)
        have ne : reF B ltB (z - p) p = weP B z p := rfl
        rw [ne] at e1
        have e2 := x_words (n := n) hO hB (s := p) (d := weP B z p - p) (by omega) w1 wdT 0 0 n enc_ok (by omega) rfl (by omega)
        rw [w2] at e2
        have fl := fn_le (wlF B (weP B z p - p) p)
        rw [f8_wordEnd, e1, qb, f8_wordNumber, show f8_wordNumber_c11 n I O n 278 (nI p) (nI (weP B z p)) 0 (nI p) 1 0 = _ from e2, qb, show f8_addToken I O 278 (nI _) (nI p) 0 = _ from x_addTok hO hC.2.2.1 (by omega) (fnW (wlF B (weP B z p - p) p) wdT 0) p 0, qb, nI_1, nI_mx (by omega) (by omega), qb, Nat.max_eq_right (by omega)]
        exact tok hb (weP B z p) (weP B z p) (fnW (wlF B (weP B z p - p) p) wdT 0) 0 _ rfl (by unfold tkK; rw [if_neg (by omega), if_pos hl]) (by unfold tkV; rw [if_neg (by omega), if_pos hl]; rfl) (by unfold tkE; rw [if_neg (by omega), if_pos hl]) (Nat.le_refl _)
    · have ep : p = z := by omega
      have es : stT B z t = z := by
        rw [← hsk, ep]
        have := sk_le (B := B) (z := z) (p := z) (Nat.le_refl _)
        omega
      have eK : kdT B z t = 27 := by unfold kdT tkK; rw [es, if_pos (Nat.le_refl _)]
      have eV : nvT B z t = 0 := by unfold nvT tkV; rw [es, if_pos (Nat.le_refl _)]
      refine ⟨atI I t 27 z 0, t, ?_, Ct_add hC eK.symm es.symm (by rw [eV]; rfl), es, hj⟩
      rw [f8_cut_c9, h4, if_pos ((nI_leI (by omega) (by omega)).mpr (by omega)), show f8_addToken I O 278 27 (nI z) 0 = _ from x_addTok hO hC.2.2.1 (by omega) 27 z 0, qb]
theorem x_cut (hn : 100000 ≤ n) (hO : OF O) (h0 : BX0 I0 B z) : ∃ I' T, f8_cut n I0 O 278 = some I' ∧ CtI I0 I' B z (T + 1) ∧ stT B z T = z ∧ T ≤ 300 ∧ ∀ j, j < T → stT B z j < z := by
  have hC : CtI I0 (sI I0 278 5 0) B z 0 := ⟨fun a h1 _ _ _ => sI_o _ _ h1, fun k hk => sI_k _ _ hk, sI_s _ _ _ _, fun i hi => absurd hi (Nat.not_lt_zero _)⟩
  obtain ⟨I', T, q1, q2, q3, q4⟩ := x_cut9 hn hO h0 z 0 n (sI I0 278 5 0) 0 0 (by omega) (by have := h0.1; omega) hC (fun j hj => absurd hj (Nat.not_lt_zero _)) (Nat.le_refl _) rfl (Nat.le_refl _)
  refine ⟨I', T, ?_, q2, q3, ?_, q4⟩
  · rw [f8_cut, qbl]; exact q1
  · have a := ps_i T q4
    have b := (st_le B z T).1
    have := h0.1
    omega
end CU
