/-! edits of all kinds as take sees them -/
theorem BegE.aq {s t0 : Mem} {o f : Nat} (H : BegE s o f t0) : ∀ q, q ≠ 17 → q ≠ 18 → t0.2 q = s.2 q := fun q q1 q2 => by
  obtain ⟨b1, b2, _⟩ := H
  rw [b2 q q2, mA_2n _ _ _ q1, cutC_2]
theorem BegE.shp {s t0 : Mem} {o f : Nat} (H : BegE s o f t0) : sh t0 = sh s := by
  funext x
  unfold sh
  rw [H.aq 9 (by omega) (by omega)]
theorem SetE.tk {s t : Mem} {o f : Nat} {v : Int32} (hk : s.2 3 (8 * sh s o + f) = 0 ∨ s.2 3 (8 * sh s o + f) = 1) (H : SetE s o f v t) : TkE s o f 1 (fun _ => v) t := by
  obtain ⟨t0, hB, hE⟩ := H
  refine ⟨t0, mA t0 10 (8 * o + f) v, hB, ⟨fun q _ => rfl, fun q _ q1 _ => mA_2n _ _ _ q1, fun x hx => by rw [mA_2s, pk_un hx], fun x _ => by rw [mA_2n _ _ _ (by omega)], ?_, fun e => ?_⟩, rfl, fun q hq => mA_2n _ _ _ (by omega), hE⟩
  · rw [mA_2s, pk_us, hB.shp, hB.aq 3 (by omega) (by omega)]
    unfold plV
    rw [if_pos hk]
  · rw [hB.shp, hB.aq 3 (by omega) (by omega)] at e
    rw [e] at hk
    exact hk.elim (fun z => absurd z (by decide)) (fun z => absurd z (by decide))
theorem InsE.tk {s t : Mem} {o f len i : Nat} {u : Int32} (hk : s.2 3 (8 * sh s o + f) = 2) (hi : i ≤ len) (H : InsE s o f len i u t) : TkE s o f (len + 1) (insP (fun k => s.2 11 (6 * (8 * o + f) + k)) i u) t := by
  obtain ⟨t0, t1, hB, ⟨i1, i2, i3, i4, i5, i6, i7⟩, hE⟩ := H
  refine ⟨t0, t1, hB, ⟨fun q _ => by rw [i1], fun q _ q1 q2 => i2 q q1 q2, fun x hx => by rw [i3, pk_un hx], i4, ?_, fun _ k hk' => ?_⟩, i1, fun q hq => i2 q (by omega) (by omega), hE⟩
  · rw [i3, pk_us, hB.shp, hB.aq 3 (by omega) (by omega), hk]
    unfold plV
    rw [if_neg (by decide)]
  · have e11 := hB.aq 11 (by omega) (by omega)
    unfold insP
    by_cases z : k < i
    · rw [if_pos z, i5 k z, e11]
    · rw [if_neg z]
      by_cases y : k = i
      · rw [if_pos y, y, i6]
      · rw [if_neg y]
        have := i7 (k - 1) (by omega) (by omega)
        rw [show 6 * (8 * o + f) + (k - 1) + 1 = 6 * (8 * o + f) + k by omega, e11] at this
        exact this
theorem RemE.tk {s t : Mem} {o f len i : Nat} (hk : s.2 3 (8 * sh s o + f) = 2) (hi : i < len) (H : RemE s o f len i t) : TkE s o f (len - 1) (remP (fun k => s.2 11 (6 * (8 * o + f) + k)) i) t := by
  obtain ⟨t0, t1, hB, ⟨i1, i2, i3, i4, i5, i7⟩, hE⟩ := H
  refine ⟨t0, t1, hB, ⟨fun q _ => by rw [i1], fun q _ q1 q2 => i2 q q1 q2, fun x hx => by rw [i3, pk_un hx], i4, ?_, fun _ k hk' => ?_⟩, i1, fun q hq => i2 q (by omega) (by omega), hE⟩
  · rw [i3, pk_us, hB.shp, hB.aq 3 (by omega) (by omega), hk]
    unfold plV
    rw [if_neg (by decide)]
  · have e11 := hB.aq 11 (by omega) (by omega)
    unfold remP
    by_cases z : k < i
    · rw [if_pos z, i5 k z, e11]
    · rw [if_neg z, i7 k (by omega) hk', e11]
      rfl
theorem insF_congr (fl W O : Int32) (n : Nat) : ∀ (j : Nat) (w w' p : Nat → Int32), j < n → (∀ k, k < n → w k = w' k) → (insF fl W O j w p).2 = (insF fl W O j w' p).2 ∧ ∀ k, k < n → (insF fl W O j w p).1 k = (insF fl W O j w' p).1 k
  | 0, w, w', p, hj, h => by
    rw [insF, insF]
    refine ⟨rfl, fun k hk => ?_⟩
    dsimp only
    by_cases z : k = 0
    · subst z; rw [pk_us, pk_us]
    · rw [pk_un z, pk_un z]; exact h k hk
  | j + 1, w, w', p, hj, h => by
    rw [insF, insF, h j (by omega)]
    by_cases q : ahd W (w' j) fl
    · rw [if_pos q, if_pos q]
      refine insF_congr fl W O n j _ _ _ (by omega) (fun k hk => ?_)
      by_cases z : k = j + 1
      · subst z; rw [pk_us, pk_us]
      · rw [pk_un z, pk_un z]; exact h k hk
    · rw [if_neg q, if_neg q]
      refine ⟨rfl, fun k hk => ?_⟩
      dsimp only
      by_cases z : k = j + 1
      · subst z; rw [pk_us, pk_us]
      · rw [pk_un z, pk_un z]; exact h k hk
theorem srtF_congr (fl : Int32) {n : Nat} {w w' p : Nat → Int32} (h : ∀ k, k < n → w k = w' k) : ∀ i, i ≤ n → (srtF fl w p i).2 = (srtF fl w' p i).2 ∧ ∀ k, k < n → (srtF fl w p i).1 k = (srtF fl w' p i).1 k
  | 0, _ => ⟨rfl, h⟩
  | i + 1, hi => by
    obtain ⟨a, b⟩ := srtF_congr fl (p := p) h i (by omega)
    rw [srtF, srtF, ← b i (by omega), ← a]
    exact insF_congr fl _ _ n i _ _ _ (by omega) b
theorem SrtE.tk {s t : Mem} {o f b len : Nat} {fl : Int32} {w : Nat → Int32} (hk : s.2 3 (8 * sh s o + f) = 2) (h6 : len ≤ 6) (hl : s.2 10 (8 * o + f) = nI len) (hw : ∀ k, k < len → w k = wgt s (s.2 11 (6 * (8 * o + f) + k)).toNatClampNeg b) (H : SrtE s o f b len fl t) : TkE s o f len (srtF fl w (fun k => s.2 11 (6 * (8 * o + f) + k)) len).2 t := by
  obtain ⟨t0, t1, w', hB, hw', ⟨i1, i2, i3, i4, _⟩, hE⟩ := H
  have hc := (srtF_congr fl (p := fun k => s.2 11 (6 * (8 * o + f) + k)) (w := w) (w' := w') (fun k hk' => by rw [hw k hk', hw' k hk']) len (Nat.le_refl _)).1
  refine ⟨t0, t1, hB, ⟨fun q _ => by rw [i1], fun q hq q1 q2 => i2 q q2 ?_ ?_, fun x hx => by rw [i2 10 (by omega) (by omega) (by omega)], i3, ?_, fun _ k hk' => ?_⟩, i1, fun q hq => i2 q (by omega) (by omega) (by omega), hE⟩
  · unfold coA at hq; simp only [Bool.or_eq_true, decide_eq_true_eq] at hq; omega
  · unfold coA at hq; simp only [Bool.or_eq_true, decide_eq_true_eq] at hq; omega
  · rw [i2 10 (by omega) (by omega) (by omega), hB.aq 10 (by omega) (by omega), hl, hB.shp, hB.aq 3 (by omega) (by omega), hk]
    unfold plV
    rw [if_neg (by decide)]
  · rw [i4 k (by omega), hc]
