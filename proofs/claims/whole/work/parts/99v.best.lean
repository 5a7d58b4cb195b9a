/-! teaching: the reference's best code -/
def enB (b : Option Nat) : Int32 := match b with
  | none => -1
  | some y => nI y
def TF (J J' : TI) : Prop := ∀ a, a ≠ 332 → a ≠ 337 → a ≠ 339 → a ≠ 346 → J' a = J a
section BC
variable {n : Nat} {J : TI} {L : TL} {O : TO} {N : TN} {lw : Lws} {c : Nat}
theorem m_c144 (hn : 100000 ≤ n) (hO : OF O) (hB : WB N) (hM : MV J O N) (hL : LM0 J (N 3) lw) (hc : c < 4) {x m : Nat} (hx : x < 60000) {k105 : TI → TL → Nat → Int32 → Int32 → Int32 → Int32 → Int32 → Int32 → Int32 → Option (Int32 × TI × TL)} {y3 y4 y5 y6 : Int32} : ∃ J' L', f12_teaches_c144 n O k105 J L 331 (nI c) (nI m) y3 y4 y5 y6 (nI x) = k105 J' L' 331 (nI c) (nI m) y3 y4 y5 (if tgB N lw c m (dgT x) then nI x else y6) (nI x + y5) ∧ MV J' O N ∧ TF J J' := by
  obtain ⟨J', L', q1, q2, q3⟩ := m_taught (L := L) (m := m) hn hO hB hM hL hc hx
  refine ⟨J', L', ?_, q2, q3⟩
  unfold f12_teaches_c144
  rw [q1, qb]
  dsimp only
  cases tgB N lw c m (dgT x)
  · rfl
  · rfl
theorem m_bestC (hn : 100000 ≤ n) (hO : OF O) (hB : WB N) (hM : MV J O N) (hL : LM0 J (N 3) lw) (hc : c < 4) {m st e : Nat} (hst : 1 ≤ st) (he : e * st = 59049) {y3 : Int32} : ∃ J' L' b, BsI (fun x => tgB N lw c m (dgT x)) (fun k => k * st) e b ∧ MV J' O N ∧ TF J J' ∧ f12_teaches_c105 n O n J L 331 (nI c) (nI m) y3 (nI 59049) (nI st) (-1) (nI 0) = (if enB b = (-1 : Int32) then some (((-2) : Int32), J', L') else (if y3 = (-1 : Int32) then (f12_timesIn n 331 (enB b)).bind fun r6 => some (r6, J', L') else (f12_timesOf n (enB b) y3).bind fun r4 => some (r4, J', L'))) := by
  have e1 : e ≤ 59049 := by rw [← he]; exact Nat.le_mul_of_pos_right e (by omega)
  have mono : ∀ i j, i < j → i * st < j * st := fun i j h => Nat.mul_lt_mul_of_pos_right h (by omega)
  have e0 : (fun k => k * st) 0 = 0 := Nat.zero_mul st
  have key := lpR (L := fun m' k (s : TI × TL × Option Nat) => f12_teaches_c105 n O m' s.1 s.2.1 331 (nI c) (nI m) y3 (nI 59049) (nI st) (enB s.2.2) (nI (k * st))) (fun k s => MV s.1 O N ∧ TF J s.1 ∧ BsI (fun x => tgB N lw c m (dgT x)) (fun k => k * st) k s.2.2) (fun res => ∃ J' L' b, BsI (fun x => tgB N lw c m (dgT x)) (fun k => k * st) e b ∧ MV J' O N ∧ TF J J' ∧ res = (if enB b = (-1 : Int32) then some (((-2) : Int32), J', L') else (if y3 = (-1 : Int32) then (f12_timesIn n 331 (enB b)).bind fun r6 => some (r6, J', L') else (f12_timesOf n (enB b) y3).bind fun r4 => some (r4, J', L')))) e ?_ ?_ e 0 n (J, L, none) (by omega) (by omega) ⟨hM, fun _ _ _ _ _ => rfl, fun j hj => by omega⟩
  · show ∃ J' L' b, _
    have k2 := key
    dsimp only at k2
    rw [Nat.zero_mul] at k2
    exact k2
  · intro m' k s hk ⟨k1, k2, k3⟩
    left
    have hks : k * st < 59049 := by rw [← he]; exact mono k e hk
    have hL' : LM0 s.1 (N 3) lw := LM_fr hL (k2 334 (by omega) (by omega) (by omega) (by omega))
    have nx : nI (k * st) + nI st = nI ((k + 1) * st) := by rw [qadd, Nat.succ_mul]
    have ti := m_timesIn (n := n) hn (x := k * st) (by omega) (a := 331)
    have tb : tiN (k * st) ≤ 40 := by
      rw [ti_code]
      have a0 := dgT_le (k * st) 0
      have a1 := dgT_le (k * st) 1
      have a2 := dgT_le (k * st) 2
      have a3 := dgT_le (k * st) 3
      have a4 := dgT_le (k * st) 4
      omega
    have b1 := bs_s (P := fun x => tgB N lw c m (dgT x)) (g := fun k => k * st) mono k3
    have nj : ¬ nI 59049 ≤ nI (k * st) := nle_i (by omega) (by omega) hks
    have skip : ∀ b', bsB (fun x => tgB N lw c m (dgT x)) (k * st) s.2.2 = b' → f12_teaches_c105 n O (m' + 1) s.1 s.2.1 331 (nI c) (nI m) y3 (nI 59049) (nI st) (enB s.2.2) (nI (k * st)) = f12_teaches_c105 n O m' s.1 s.2.1 331 (nI c) (nI m) y3 (nI 59049) (nI st) (enB b') (nI ((k + 1) * st)) → ∃ s' : TI × TL × Option Nat, (MV s'.1 O N ∧ TF J s'.1 ∧ BsI (fun x => tgB N lw c m (dgT x)) (fun k => k * st) (k + 1) s'.2.2) ∧ f12_teaches_c105 n O (m' + 1) s.1 s.2.1 331 (nI c) (nI m) y3 (nI 59049) (nI st) (enB s.2.2) (nI (k * st)) = f12_teaches_c105 n O m' s'.1 s'.2.1 331 (nI c) (nI m) y3 (nI 59049) (nI st) (enB s'.2.2) (nI ((k + 1) * st)) := by
      intro b' h1 h2
      exact ⟨(s.1, s.2.1, b'), ⟨k1, k2, by rw [← h1]; exact b1⟩, h2⟩
    have tried : ∀ y6 : Int32, (enB (bsB (fun x => tgB N lw c m (dgT x)) (k * st) s.2.2) = if tgB N lw c m (dgT (k * st)) then nI (k * st) else y6) → f12_teaches_c105 n O (m' + 1) s.1 s.2.1 331 (nI c) (nI m) y3 (nI 59049) (nI st) (enB s.2.2) (nI (k * st)) = f12_teaches_c144 n O (f12_teaches_c105 n O m') s.1 s.2.1 331 (nI c) (nI m) y3 (nI 59049) (nI st) y6 (nI (k * st)) → ∃ s' : TI × TL × Option Nat, (MV s'.1 O N ∧ TF J s'.1 ∧ BsI (fun x => tgB N lw c m (dgT x)) (fun k => k * st) (k + 1) s'.2.2) ∧ f12_teaches_c105 n O (m' + 1) s.1 s.2.1 331 (nI c) (nI m) y3 (nI 59049) (nI st) (enB s.2.2) (nI (k * st)) = f12_teaches_c105 n O m' s'.1 s'.2.1 331 (nI c) (nI m) y3 (nI 59049) (nI st) (enB s'.2.2) (nI ((k + 1) * st)) := by
      intro y6 h1 h2
      obtain ⟨J', L', q1, q2, q3⟩ := m_c144 (L := s.2.1) (m := m) (k105 := f12_teaches_c105 n O m') (y3 := y3) (y4 := nI 59049) (y5 := nI st) (y6 := y6) hn hO hB k1 hL' hc (x := k * st) (by omega)
      refine ⟨(J', L', bsB (fun x => tgB N lw c m (dgT x)) (k * st) s.2.2), ⟨q2, fun a g1 g2 g3 g4 => (q3 a g1 g2 g3 g4).trans (k2 a g1 g2 g3 g4), b1⟩, ?_⟩
      rw [h2, q1, nx]
      dsimp only
      rw [h1]
    by_cases z : 8 < tiN (k * st)
    · refine skip s.2.2 (by unfold bsB; rw [if_pos z]) ?_
      rw [f12_teaches_c105, if_neg nj, ti, qb, if_pos (show (8 : Int32) < nI _ from (nI_ltI (a := 8) (by omega) (by omega)).mpr z), nx]
    · have nz : ¬ (8 : Int32) < nI (tiN (k * st)) := fun q => z ((nI_ltI (a := 8) (by omega) (by omega)).mp q)
      cases hb : s.2.2 with
      | none =>
        have t2 := tried (-1) (by
          unfold bsB; rw [if_neg z, hb]
          show enB (if tgB N lw c m (dgT (k * st)) = true then some (k * st) else none) = _
          cases tgB N lw c m (dgT (k * st))
          · rfl
          · rfl)
        rw [hb] at t2
        refine t2 ?_
        rw [f12_teaches_c105, if_neg nj, ti, qb, if_neg nz, if_pos (show enB none = -1 from rfl)]; rfl
      | some y =>
        rw [hb] at k3
        obtain ⟨⟨i, hi, ei⟩, y8, -, -⟩ := k3
        have yl : y < 59049 := by rw [ei]; have := mono i k hi; dsimp only; omega
        have ny : ¬ nI y = -1 := fun q => by
          have q' := i_eq.mp q
          rw [qtoI (by omega), show (-1 : Int32).toInt = -1 from rfl] at q'; omega
        have ti2 := m_timesIn (n := n) hn (x := y) (by omega) (a := 331)
        by_cases w : tiN y < tiN (k * st)
        · have s2 := skip (some y) (by unfold bsB; rw [if_neg z, hb]; exact if_pos w)
          rw [hb] at s2
          refine s2 ?_
          rw [f12_teaches_c105, if_neg nj, ti, qb, if_neg nz, if_neg (show ¬ enB (some y) = -1 from ny), show enB (some y) = nI y from rfl, ti2, qb, if_pos ((nI_ltI (by omega) (by omega)).mpr w), nx]
        · have t2 := tried (nI y) (by
            unfold bsB; rw [if_neg z, hb]
            show enB (if tiN y < tiN (k * st) then some y else if tgB N lw c m (dgT (k * st)) = true then some (k * st) else some y) = _
            rw [if_neg w]
            cases tgB N lw c m (dgT (k * st))
            · rfl
            · rfl)
          rw [hb] at t2
          refine t2 ?_
          rw [f12_teaches_c105, if_neg nj, ti, qb, if_neg nz, if_neg (show ¬ enB (some y) = -1 from ny), show enB (some y) = nI y from rfl, ti2, qb, if_neg (fun q => w ((nI_ltI (by omega) (by omega)).mp q))]
  · intro m' s ⟨k1, k2, k3⟩
    refine ⟨s.1, s.2.1, s.2.2, k3, k1, k2, ?_⟩
    show f12_teaches_c105 n O (m' + 1) s.1 s.2.1 331 (nI c) (nI m) y3 (nI 59049) (nI st) (enB s.2.2) (nI (e * st)) = _
    rw [he, f12_teaches_c105, if_pos (Int32.le_refl _)]
end BC
