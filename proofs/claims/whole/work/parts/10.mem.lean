/-! THE MEMORY of the reference: its numbers F (by the field's number) and its arrays A (by the field's number); a state is the two -/
abbrev Mem : Type := (Nat → Int32) × (Nat → Nat → Int32)
def arrL (n : Nat) (f : Nat → Int32) : List Value := (List.range n).map (fun i => Value.int (f i))
theorem arrL_len (n : Nat) (f : Nat → Int32) : (arrL n f).length = n := by simp [arrL]
theorem arrL_get {n i : Nat} (f : Nat → Int32) (hi : i < n) : (arrL n f)[i]? = some (.int (f i)) := by simp [arrL, hi]
theorem arrL_set {n i : Nat} (f : Nat → Int32) (v : Int32) (hi : i < n) : (arrL n f).set i (.int v) = arrL n (upd f i v) := by
  apply List.ext_getElem?
  intro j
  by_cases e : i = j
  · subst e
    rw [List.getElem?_set_self (by rw [arrL_len]; exact hi), arrL_get _ hi]
    simp [upd]
  · rw [List.getElem?_set_ne e]
    by_cases hj : j < n
    · rw [arrL_get _ hj, arrL_get _ hj]
      simp [upd, Ne.symm e]
    · rw [List.getElem?_eq_none (by rw [arrL_len]; omega), List.getElem?_eq_none (by rw [arrL_len]; omega)]
theorem arrL_rep (n : Nat) : List.replicate n (Value.int 0) = arrL n (fun _ => 0) := by
  apply List.ext_getElem?
  intro j
  by_cases hj : j < n
  · rw [arrL_get _ hj, List.getElem?_replicate, if_pos hj]
  · rw [List.getElem?_eq_none (by simp; omega), List.getElem?_eq_none (by rw [arrL_len]; omega)]
/-- which fields are arrays, how long -/
def mlen : Nat → Nat
  | 1 => 10 | 2 => 10 | 3 => 80 | 4 => 80 | 5 => 80 | 6 => 80 | 7 => 80 | 9 => 60 | 10 => 480 | 11 => 2880 | 12 => 8 | 13 => 60 | 14 => 60
  | 17 => 700 | 18 => 4900 | 19 => 4900 | 22 => 61 | 26 => 10 | 27 => 10 | 28 => 10 | 29 => 10 | 30 => 10 | 31 => 1200 | 32 => 6
  | 34 => 16 | 35 => 80 | 36 => 80 | 38 => 600 | 39 => 600 | 41 => 600 | 42 => 600 | 43 => 3600 | 44 => 3600 | _ => 0
def isA (j : Nat) : Bool := decide (0 < mlen j)
def kA (j : Nat) : Nat := if j = 28 ∨ j = 44 then 21 else 20
def mfs (F : Nat → Int32) (am : Nat → Nat) : List Value := [.int (F 0), .ref (am 1), .ref (am 2), .ref (am 3), .ref (am 4), .ref (am 5), .ref (am 6), .ref (am 7), .int (F 8), .ref (am 9), .ref (am 10), .ref (am 11), .ref (am 12), .ref (am 13), .ref (am 14), .int (F 15), .int (F 16), .ref (am 17), .ref (am 18), .ref (am 19), .int (F 20), .int (F 21), .ref (am 22), .int (F 23), .int (F 24), .int (F 25), .ref (am 26), .ref (am 27), .ref (am 28), .ref (am 29), .ref (am 30), .ref (am 31), .ref (am 32), .int (F 33), .ref (am 34), .ref (am 35), .ref (am 36), .int (F 37), .ref (am 38), .ref (am 39), .int (F 40), .ref (am 41), .ref (am 42), .ref (am 43), .ref (am 44), .int (F 45)]
/-- the heap holds the reference at m, its arrays at am, with the memory s -/
def RepM (h : Hp) (m : Nat) (am : Nat → Nat) (s : Mem) : Prop := h m = some (13, mfs s.1 am) ∧ (∀ j, isA j = true → h (am j) = some (kA j, arrL (mlen j) (s.2 j))) ∧ (∀ i j, isA i = true → isA j = true → am i = am j → i = j)
/-- an address of the reference's -/
def MA (m : Nat) (am : Nat → Nat) (a : Nat) : Prop := a = m ∨ ∃ j, isA j = true ∧ a = am j
/-- behind a call of the reference: the memory is s', nothing else has changed -/
def Mod (h : Hp) (m : Nat) (am : Nat → Nat) (h' : Hp) (s' : Mem) : Prop := RepM h' m am s' ∧ ∀ a, ¬ MA m am a → h' a = h a
theorem RepM.obj {h : Hp} {m : Nat} {am : Nat → Nat} {s : Mem} (r : RepM h m am s) : h m = some (13, mfs s.1 am) := r.1
theorem RepM.arr {h : Hp} {m : Nat} {am : Nat → Nat} {s : Mem} (r : RepM h m am s) (j : Nat) (hj : isA j = true) (hk : kA j = 20) : h (am j) = some (20, arrL (mlen j) (s.2 j)) := by
  rw [← hk]; exact r.2.1 j hj
theorem RepM.arrZ {h : Hp} {m : Nat} {am : Nat → Nat} {s : Mem} (r : RepM h m am s) (j : Nat) (hj : isA j = true) (hk : kA j = 21) : h (am j) = some (21, arrL (mlen j) (s.2 j)) := by
  rw [← hk]; exact r.2.1 j hj
theorem kA_ne (j : Nat) : kA j ≠ 13 := by unfold kA; split <;> decide
theorem RepM.ne {h : Hp} {m : Nat} {am : Nat → Nat} {s : Mem} (r : RepM h m am s) {j : Nat} (hj : isA j = true) : am j ≠ m := by
  intro e
  have h1 := r.2.1 j hj
  rw [e, r.1] at h1
  simp only [Option.some.injEq, Prod.mk.injEq] at h1
  exact kA_ne j h1.1.symm
def mF (s : Mem) (j : Nat) (v : Int32) : Mem := (upd s.1 j v, s.2)
def mA (s : Mem) (j i : Nat) (v : Int32) : Mem := (s.1, va_up s.2 j (upd (s.2 j) i v))
theorem Mod.rf {h : Hp} {m : Nat} {am : Nat → Nat} {s : Mem} (r : RepM h m am s) : Mod h m am h s := ⟨r, fun _ _ => rfl⟩
theorem Mod.trans {h h1 h2 : Hp} {m : Nat} {am : Nat → Nat} {s1 s2 : Mem} (a : Mod h m am h1 s1) (b : Mod h1 m am h2 s2) : Mod h m am h2 s2 := ⟨b.1, fun q hq => (b.2 q hq).trans (a.2 q hq)⟩
theorem mfs_set (F : Nat → Int32) (am : Nat → Nat) (j : Nat) (v : Int32) (hj : j = 0 ∨ j = 8 ∨ j = 15 ∨ j = 16 ∨ j = 20 ∨ j = 21 ∨ j = 23 ∨ j = 24 ∨ j = 25 ∨ j = 33 ∨ j = 37 ∨ j = 40 ∨ j = 45) : (mfs F am).set j (.int v) = mfs (upd F j v) am := by
  rcases hj with rfl | rfl | rfl | rfl | rfl | rfl | rfl | rfl | rfl | rfl | rfl | rfl | rfl <;> rfl
theorem RepM.setF {h : Hp} {m : Nat} {am : Nat → Nat} {s : Mem} (r : RepM h m am s) (j : Nat) (v : Int32) (hj : j = 0 ∨ j = 8 ∨ j = 15 ∨ j = 16 ∨ j = 20 ∨ j = 21 ∨ j = 23 ∨ j = 24 ∨ j = 25 ∨ j = 33 ∨ j = 37 ∨ j = 40 ∨ j = 45) : Mod h m am (hu h m (13, (mfs s.1 am).set j (.int v))) (mF s j v) := by
  refine ⟨⟨by rw [hu_self, mfs_set _ _ _ _ hj]; rfl, fun i hi => ?_, r.2.2⟩, fun a ha => hu_ne _ _ (fun e => ha (Or.inl e))⟩
  rw [hu_ne _ _ (r.ne hi)]
  exact r.2.1 i hi
theorem RepM.setA {h : Hp} {m : Nat} {am : Nat → Nat} {s : Mem} (r : RepM h m am s) (j i k : Nat) (v : Int32) (hj : isA j = true) (hk : kA j = k) (hi : i < mlen j) : Mod h m am (hu h (am j) (k, (arrL (mlen j) (s.2 j)).set i (.int v))) (mA s j i v) := by
  subst hk
  refine ⟨⟨by rw [hu_ne _ _ (Ne.symm (r.ne hj))]; exact r.1, fun q hq => ?_, r.2.2⟩, fun a ha => hu_ne _ _ (fun e => ha (Or.inr ⟨j, hj, e⟩))⟩
  by_cases e : q = j
  · subst e
    rw [hu_self, arrL_set _ _ hi]
    simp [mA, va_up]
  · rw [hu_ne _ _ (fun z => e (r.2.2 q j hq hj z)), r.2.1 q hq]
    simp [mA, va_up, e]
/-- in(v, low, high) -/
theorem sp_md_in (G : Gk) (h : Hp) (v a b : Int32) : Ct G md_in [.int v, .int a, .int b] h (pI fun r h' => h' = h ∧ r = if a ≤ v ∧ v ≤ b then 1 else 0) := by
  refine Ct.ofL (M := md_in) (lv := [some (.int v), some (.int a), some (.int b)]) mdf_md_in rfl (Nat.le_of_ble_eq_true rfl) rfl ?_
  refine V_iload_n d_md_in_0 rfl rfl ?_
  refine V_iload_n d_md_in_1 rfl rfl ?_
  refine V_icmp_lt d_md_in_2 (fun c2 => ?_) (fun c2 => ?_)
  · skip
    refine V_iconst (v := 0) d_md_in_14 (by decide) ?_
    refine V_zreturn d_md_in_15 rfl (by first | exact Or.inl rfl | exact Or.inr rfl) ?_
    refine ⟨_, rfl, rfl, ?_⟩
    simp only [Int32.le_iff_toInt_le, Int32.lt_iff_toInt_lt] at *
    split <;> first | rfl | (exfalso; omega)
  · skip
    refine V_iload_n d_md_in_5 rfl rfl ?_
    refine V_iload_n d_md_in_6 rfl rfl ?_
    refine V_icmp_gt d_md_in_7 (fun c7 => ?_) (fun c7 => ?_)
    · skip
      refine V_iconst (v := 0) d_md_in_14 (by decide) ?_
      refine V_zreturn d_md_in_15 rfl (by first | exact Or.inl rfl | exact Or.inr rfl) ?_
      refine ⟨_, rfl, rfl, ?_⟩
      simp only [Int32.le_iff_toInt_le, Int32.lt_iff_toInt_lt] at *
      split <;> first | rfl | (exfalso; omega)
    · skip
      refine V_iconst (v := 1) d_md_in_10 (by decide) ?_
      refine V_goto d_md_in_11 ?_
      refine V_zreturn d_md_in_15 rfl (by first | exact Or.inl rfl | exact Or.inr rfl) ?_
      refine ⟨_, rfl, rfl, ?_⟩
      simp only [Int32.le_iff_toInt_le, Int32.lt_iff_toInt_lt] at *
      split <;> first | rfl | (exfalso; omega)
theorem sp_md_isShape (G : Gk) {h : Hp} {m : Nat} {am : Nat → Nat} {s : Mem} (r : RepM h m am s) (v : Int32) : Ct G md_isShape [.ref m, .int v] h (pI fun r h' => h' = h ∧ r = if 0 ≤ v ∧ v ≤ s.1 0 - 1 then 1 else 0) := by
  have h0 := r.obj
  refine Ct.ofL (M := md_isShape) (lv := [some (.ref m), some (.int v)]) mdf_md_isShape rfl (Nat.le_of_ble_eq_true rfl) rfl ?_
  refine V_iload_n d_md_isShape_0 rfl rfl ?_
  refine V_iconst (v := 0) d_md_isShape_1 (by decide) ?_
  refine V_aload_n d_md_isShape_2 rfl rfl ?_
  refine V_getf d_md_isShape_3 fl_md_110 (by assumption) rfl ?_
  refine V_iconst (v := 1) d_md_isShape_6 (by decide) ?_
  refine V_isub d_md_isShape_7 ?_
  refine V_callS (N := md_in) d_md_isShape_8 ml_md_114 mdf_md_in ws_md_in (sp_md_in G h _ _ _) rfl rfl (by decide) (by decide) (Nat.le_of_ble_eq_true rfl) rfl rfl (kI fun r1 h1 ⟨e1, e2⟩ => ?_)
  refine V_zreturn d_md_isShape_11 rfl (by rw [e2]; split; exact Or.inr rfl; exact Or.inl rfl) ?_
  subst e1 e2; exact ⟨_, rfl, rfl, rfl⟩
