/-! more rows: longs into locals -/
section Rows
variable {G : Gk} {M : MI} {post : Option Value → Hp → Prop} {h : Hp} {cr sr pc pc2 : Nat} {lv : List (Option Value)} {st : List Value}
theorem Lv.store2 {ls : Array Slot} {n i : Nat} {v : Value} (hl : Lv ls n lv) (hi : i + 1 < n) (hc : v.category = 2) (ho : okS lv i = true) : ∃ ls', storeLocals ls i v = some ls' ∧ Lv ls' n ((lv.set i (some v)).set (i + 1) none) := by
  obtain ⟨ls', e', h'⟩ := lv_store2 (l := []) (v := v) ⟨hl.1, hl.2.1, fun _ h => by cases h⟩ hi hc
  refine ⟨ls', e', h'.1, h'.2.1, fun j w hj => ?_⟩
  by_cases e1 : j = i + 1
  · subst e1
    rcases Nat.lt_or_ge (i + 1) lv.length with q | q
    · rw [List.getElem?_set_self (by simpa using q)] at hj; cases hj
    · rw [List.getElem?_eq_none (by simpa using q)] at hj; cases hj
  rw [List.getElem?_set_ne (Ne.symm e1)] at hj
  by_cases e : j = i
  · subst e
    have hlen : j < lv.length := by
      rcases Nat.lt_or_ge j lv.length with q | q
      · exact q
      · rw [List.getElem?_eq_none (by simpa using q)] at hj; cases hj
    rw [List.getElem?_set_self hlen] at hj
    cases hj
    exact h'.2.2 (j, v) List.mem_cons_self
  · rw [List.getElem?_set_ne (Ne.symm e)] at hj
    obtain ⟨ls2, e2, h2⟩ := lv_store2 (l := [(j, w)]) (v := v) ⟨hl.1, hl.2.1, fun q hq => by
      rw [List.mem_singleton] at hq; subst hq; exact hl.2.2 j w hj⟩ hi hc
    cases e'.symm.trans e2
    refine h2.2.2 (j, w) (List.mem_cons_of_mem _ (List.mem_filter.mpr ⟨List.mem_singleton.mpr rfl, ?_⟩))
    have hx : ¬ (j + 1 = i ∧ w.category = 2) := by
      rintro ⟨rfl, hw⟩
      unfold okS at ho
      dsimp only at ho
      rw [hj] at ho
      cases w <;> simp [Value.category] at hw ho
    simp only [Bool.and_eq_true, Bool.not_eq_true', beq_eq_false_iff_ne, ne_eq]
    refine ⟨e, e1, ?_⟩
    cases hb : (j + 1 == i && w.category == 2) with
    | false => rfl
    | true => exact absurd (by simpa using hb) hx
theorem V_lstore_n {n : Fin 4} {i : Nat} {x : Int64} {lv2 : List (Option Value)} (d : DC M.2.1 pc (.lstore_n n) 1 pc2) (hi : (n : Nat) = i) (hn : i + 1 < M.2.2.1) (ho : okS lv i = true) (he : (lv.set i (some (.long x))).set (i + 1) none = lv2) (k : V G M post h cr sr pc2 lv2 st) : V G M post h cr sr pc lv (.long x :: st) := by
  obtain ⟨hdg, rfl⟩ := d
  subst he hi
  refine Vpure (fun {p l e R s m args below meth c H locs cells slots Q ls} hexec hb hl _ _ w => ?_) k
  obtain ⟨ls', e', h'⟩ := hl.store2 (v := .long x) hn rfl ho
  intro T hT X
  obtain ⟨t, a, b⟩ := w ls' h' T hT X
  refine ⟨t, ?_, b⟩
  jvm_step X.here [X.here.top, ↓top_set X.here.top, hexec, hb, hdg, e']
  exact a
theorem V_lstore {i : Nat} {x : Int64} {lv2 : List (Option Value)} (d : DC M.2.1 pc (.lstore i) 2 pc2) (hn : i + 1 < M.2.2.1) (ho : okS lv i = true) (he : (lv.set i (some (.long x))).set (i + 1) none = lv2) (k : V G M post h cr sr pc2 lv2 st) : V G M post h cr sr pc lv (.long x :: st) := by
  obtain ⟨hdg, rfl⟩ := d
  subst he
  refine Vpure (fun {p l e R s m args below meth c H locs cells slots Q ls} hexec hb hl _ _ w => ?_) k
  obtain ⟨ls', e', h'⟩ := hl.store2 (v := .long x) hn rfl ho
  intro T hT X
  obtain ⟨t, a, b⟩ := w ls' h' T hT X
  refine ⟨t, ?_, b⟩
  jvm_step X.here [X.here.top, ↓top_set X.here.top, hexec, hb, hdg, e']
  exact a
end Rows
