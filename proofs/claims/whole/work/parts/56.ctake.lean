/-! take -/
def RC (G : Gk) (g : Gm) (h : Hp) (s : Mem) : Prop := RB g h s ∧ PH G g h s
/-- behind a call: the class's memory is t's, others' cells are as they were -/
def Nc (G : Gk) (g : Gm) (h h' : Hp) (t : Mem) : Prop := ∃ g', RC G g' h' t ∧ Stq g h (fun r => r = 0) g' h' ∧ g'.2 2 = g.2 2
def TkE (s : Mem) (o f n : Nat) (F : Nat → Int32) (t : Mem) : Prop := ∃ t0 m1, BegE s o f t0 ∧ PutR t0 o f n F m1 ∧ m1.1 = t0.1 ∧ (∀ q, q = 17 ∨ q = 18 ∨ q = 19 ∨ q = 22 → m1.2 q = t0.2 q) ∧ EndE m1 o f t
def IvX (s : Mem) : Prop := (s.1 23 = 0 → nE s = enB s (nEn s)) ∧ (s.1 23 ≠ 0 → gF s = enB s (nD s) ∧ (nD s < nEn s → nE s = enB s (nEn s)) ∧ gF s ≤ nE s)
theorem dEnd_B (s : Mem) : dEnd s = enB s (nD s) := rfl
theorem nE'_no {s : Mem} (ivh : IvH s) (ivx : IvX s) (h : s.1 23 = 0) : nE' s = enB s (nD s) := by
  unfold nE'
  by_cases q : nD s < nEn s
  · rw [if_pos q]; rfl
  · rw [if_neg q, ivx.1 h]
    rw [show nEn s = nD s by have := ivh.2.2.2.1; omega]
theorem nE'_op {s : Mem} (ivh : IvH s) (ivx : IvX s) (h : s.1 23 ≠ 0) : nE' s = gF s + gsz s := by
  obtain ⟨q1, q2, q3⟩ := ivx.2 h
  unfold nE' gsz
  by_cases q : nD s < nEn s
  · rw [if_pos q, if_neg (by omega), q1]; rfl
  · rw [if_neg q]
    by_cases z : gF s < nE s ∧ nEn s = nD s
    · rw [if_pos z]; omega
    · rw [if_neg z]
      have := ivh.2.2.2.1
      omega
theorem enc_mono {s : Mem} (ivh : IvH s) : ∀ (d k : Nat), k + d < nEn s → en s k ≤ en s (k + d)
  | 0, _, _ => Nat.le_refl _
  | d + 1, k, h => Nat.le_trans (enc_mono ivh d k (by omega)) (ivh.2.2.2.2.2.2.2.2 (k + d) (by omega))
theorem enc_le {s : Mem} (ivh : IvH s) {k n : Nat} (hk : k < n) (hn : n ≤ nEn s) : en s k ≤ enB s n := by
  unfold enB
  rw [if_neg (by omega)]
  have := enc_mono ivh (n - 1 - k) k (by omega)
  rw [show k + (n - 1 - k) = n - 1 by omega] at this
  exact this
theorem encB_le {s : Mem} (ivh : IvH s) {k : Nat} (hk : k < nEn s) : enB s k ≤ en s k := by
  unfold enB
  by_cases z : k = 0
  · rw [if_pos z]; omega
  · rw [if_neg z]
    have := ivh.2.2.2.2.2.2.2.2 (k - 1) (by omega)
    rw [show k - 1 + 1 = k by omega] at this
    exact this
theorem enB_nE' {s : Mem} (ivh : IvH s) (ivx : IvX s) : enB s (nD s) ≤ nE' s := by
  by_cases h : s.1 23 = 0
  · rw [nE'_no ivh ivx h]; exact Nat.le_refl _
  · rw [nE'_op ivh ivx h, (ivx.2 h).1]; omega
/-- the history once the edit has been made, ahead of its being entered -/
def TkH (s : Mem) (o f n : Nat) (F : Nat → Int32) (t : Mem) : Prop := t.1 16 = nI (nE' s + 1) ∧ t.1 20 = nI (nD s) ∧ t.1 21 = s.1 21 ∧ t.1 23 = s.1 23 ∧ t.1 24 = s.1 24 ∧ t.2 22 = s.2 22 ∧ t.2 17 (nE' s) = nI (8 * o + f) ∧ (∀ e, e ≠ nE' s → t.2 17 e = s.2 17 e ∧ ∀ k, k < 7 → t.2 18 (7 * e + k) = s.2 18 (7 * e + k) ∧ t.2 19 (7 * e + k) = s.2 19 (7 * e + k)) ∧
  t.2 18 (7 * nE' s) = s.2 10 (8 * o + f) ∧ (∀ k, k < 6 → t.2 18 (7 * nE' s + 1 + k) = s.2 11 (6 * (8 * o + f) + k)) ∧ t.2 19 (7 * nE' s) = plV (s.2 3 (8 * sh s o + f)) n F ∧ (s.2 3 (8 * sh s o + f) = 2 → ∀ k, k < n → k < 6 → t.2 19 (7 * nE' s + 1 + k) = F k)
theorem cutC_1 (s : Mem) {q : Nat} (h1 : q ≠ 16) (h2 : q ≠ 20) : (cutM s).1 q = s.1 q := by
  unfold cutM
  split
  · rw [mF_1n _ _ h1, mF_1n _ _ h2]
  · rfl
theorem cutC_2 (s : Mem) : (cutM s).2 = s.2 := by
  unfold cutM
  split
  · rfl
  · rfl
theorem cutC_16 {s : Mem} (ivh : IvH s) : (cutM s).1 16 = nI (nE' s) := by
  unfold cutM nE'
  split
  · rw [mF_1s]
  · exact ivh.1
theorem cutC_20 {s : Mem} (ivh : IvH s) : (cutM s).1 20 = nI (nD s) := by
  unfold cutM
  split
  · rw [mF_1n _ _ (by omega), mF_1s]
  · rw [ivh.2.1, show nEn s = nD s by have := ivh.2.2.2.1; omega]
theorem TkE.out {s t : Mem} {o f n : Nat} {F : Nat → Int32} (ivh : IvH s) (hE : nE' s < 1000) (H : TkE s o f n F t) : ∃ t1 t2, PutR s o f n F t1 ∧ NoteE t1 o f (s.2 10 (8 * o + f)) (nW s) t2 ∧ TkH s o f n F (mF t2 16 (nI (nE' s + 1))) ∧ ((s.1 23 ≠ 0 ∧ t = mF t2 16 (nI (nE' s + 1))) ∨ (s.1 23 = 0 ∧ EntE (mF t2 16 (nI (nE' s + 1))) t)) := by
  obtain ⟨t0, m1, hB, hP, e1, e2, t1, t2, hK, hN, hF⟩ := H
  obtain ⟨b1, b2, b3, b4, b5⟩ := hB
  obtain ⟨P1, P2, P3, P4, P5, P6⟩ := hP
  obtain ⟨k1, k2, k3, k4, k5⟩ := hK
  have a1 : ∀ q, m1.1 q = (cutM s).1 q := fun q => by rw [e1, b1]; rfl
  have a2 : ∀ q, q ≠ 17 → q ≠ 18 → t0.2 q = s.2 q := fun q q1 q2 => by rw [b2 q q2, mA_2n _ _ _ q1, cutC_2]
  have nEm : nE m1 = nE' s := by unfold nE; rw [a1, cutC_16 ivh]; exact cl _ (by omega)
  have nWm : nW m1 = nW s := by unfold nW; rw [a1, cutC_1 s (by omega) (by omega)]
  have sht : sh t0 = sh s := by funext x; unfold sh; rw [a2 9 (by omega) (by omega)]
  rw [nEm] at hN hF k3 k4 k5
  rw [nWm] at hN
  have h18 : m1.2 18 (7 * nE' s) = s.2 10 (8 * o + f) := by rw [e2 18 (by omega), b4, mA_2n _ _ _ (by omega), cutC_2]
  rw [h18] at hN
  rw [a1 23, cutC_1 s (by omega) (by omega)] at hF
  have hPs : PutR s o f n F t1 := by
    refine ⟨fun q hq => ?_, fun q hq q1 q2 => ?_, fun x hx => ?_, fun x hx => ?_, ?_, fun hk i hi => ?_⟩
    · rw [k1, P1 q hq, b1]
      show (cutM s).1 q = s.1 q
      unfold coF at hq
      simp only [Bool.or_eq_true, beq_iff_eq] at hq
      exact cutC_1 s (by omega) (by omega)
    · have hq' := hq
      unfold coA at hq'
      simp only [Bool.or_eq_true, decide_eq_true_eq] at hq'
      rw [k2 q (by omega), P2 q hq q1 q2, a2 q (by omega) (by omega)]
    · rw [k2 10 (by omega), P3 x hx, a2 10 (by omega) (by omega)]
    · rw [k2 11 (by omega), P4 x hx, a2 11 (by omega) (by omega)]
    · rw [k2 10 (by omega), P5, sht, a2 3 (by omega) (by omega)]
    · rw [k2 11 (by omega)]
      exact P6 (by rw [sht, a2 3 (by omega) (by omega)]; exact hk) i hi
  have hN0 := hN
  obtain ⟨n1, n2, _⟩ := hN0
  have g2 : ∀ q, q ≠ 30 → q ≠ 31 → q ≠ 19 → (mF t2 16 (nI (nE' s + 1))).2 q = m1.2 q := fun q q1 q2 q3 => by rw [mF_2, n2 q q1 q2, k2 q q3]
  have g1 : ∀ q, q ≠ 16 → (mF t2 16 (nI (nE' s + 1))).1 q = (cutM s).1 q := fun q q1 => by rw [mF_1n _ _ q1, n1, k1, a1]
  have g19 : (mF t2 16 (nI (nE' s + 1))).2 19 = t1.2 19 := by rw [mF_2, n2 19 (by omega) (by omega)]
  refine ⟨t1, t2, hPs, hN, ⟨mF_1s _ _ _, ?_, ?_, ?_, ?_, ?_, ?_, fun e he => ⟨?_, fun k hk => ⟨?_, ?_⟩⟩, ?_, fun k hk => ?_, ?_, fun hk k hkn hk6 => ?_⟩, hF⟩
  · rw [g1 20 (by omega), cutC_20 ivh]
  · rw [g1 21 (by omega), cutC_1 s (by omega) (by omega)]
  · rw [g1 23 (by omega), cutC_1 s (by omega) (by omega)]
  · rw [g1 24 (by omega), cutC_1 s (by omega) (by omega)]
  · rw [g2 22 (by omega) (by omega) (by omega), e2 22 (by omega), a2 22 (by omega) (by omega)]
  · rw [g2 17 (by omega) (by omega) (by omega), e2 17 (by omega), b2 17 (by omega), mA_2s, pk_us]
  · rw [g2 17 (by omega) (by omega) (by omega), e2 17 (by omega), b2 17 (by omega), mA_2s, pk_un he, cutC_2]
  · rw [g2 18 (by omega) (by omega) (by omega), e2 18 (by omega), b3 _ (by omega), mA_2n _ _ _ (by omega), cutC_2]
  · rw [g19, k3 _ (by omega), e2 19 (by omega), a2 19 (by omega) (by omega)]
  · rw [g2 18 (by omega) (by omega) (by omega), h18]
  · rw [g2 18 (by omega) (by omega) (by omega), e2 18 (by omega), b5 k hk, mA_2n _ _ _ (by omega), cutC_2]
  · rw [g19, k4, P5, sht, a2 3 (by omega) (by omega)]
  · rw [g19, k5 k hk6]
    exact P6 (by rw [sht, a2 3 (by omega) (by omega)]; exact hk) k hkn
