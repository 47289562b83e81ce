/-! stores of null, clone; ArrayList -/
section Rows
variable {G : Gk} {M : MI} {post : Option Value → Hp → Prop} {h : Hp} {cr sr pc pc2 : Nat} {lv : List (Option Value)} {st : List Value}
theorem V_aastN {a : Nat} {vs : List Value} {i : Int32} (j : Nat) (d : DC M.2.1 pc .aastore 1 pc2) (ha : h a = some (27, vs)) (hi : i = nI j) (hj : j < 2147483648) (hv : j < vs.length) (kk : V G M post (hu h a (27, vs.set j .null)) cr sr pc2 lv st) : V G M post h cr sr pc lv (.null :: .int i :: .ref a :: st) := by
  intro p l e s m args below meth c A H locs cells slots ls S
  obtain ⟨C0, hH, hD, hS, hb, hl0⟩ := S
  obtain ⟨d1, rfl⟩ := d
  have hK := C0.2.2.2.2.2.2.2.2.1
  have hAa : A a := hD a 27 vs ha (by omega)
  have hcell := (hH a 27 vs ha).arr (by omega) (by omega)
  rw [if_neg (by omega)] at hcell
  subst hi
  have hcn : (nI j).toNatClampNeg = j := nI_clamp (by omega)
  refine va_WaastN (C := "java/lang/Object") C0.1 C0.2.1 hcell (aCell_arr hK (k := 27) (by decide) (by decide) vs) (fun h => by cases h) (by rw [aCell_size]; exact ix_in rfl hj hv) rfl rfl d1 fun H' e1 e2 e3 => ?_
  refine kk p l e s m args below meth c A H' _ cells slots ls ⟨C0, hH.put (cIs.ofArr (by omega) (by omega) ?_) e3, hD.put _ hAa, hS.put e2 e3 hAa, hb, hl0⟩
  rw [e1, hcn]
  exact congrArg some (aCell_store _ _ hv)
theorem V_clone {a idx : Nat} {vs : List Value} (d : DC M.2.1 pc (.invokevirtual idx) 3 pc2) (ml : Cond.methodLink M.1.cls idx ⟨"[I", "clone", "()Ljava/lang/Object;"⟩ ∈ lw_tbl) (ha : h a = some (20, vs)) (hi : ∀ v, v ∈ vs → ∃ x, v = .int x) {n : Nat} (hn : vs.length = n) (hd : 1 ≤ M.2.2.2.2.1) (hw : (st.map fun v => v.category).sum ≤ 8) (kk : ∀ q : Nat, h q = none → V G M post (hu h q (20, vs)) cr sr pc2 lv (.ref q :: st)) : V G M post h (cr + 1) (sr + n) pc lv (.ref a :: st) := by
  intro p l e s m args below meth c A H locs cells slots ls S
  obtain ⟨C0, hH, hD, hS, hb, hl0⟩ := S
  obtain ⟨d1, rfl⟩ := d
  have hts := C0.2.2.2.2.2.2.2.1
  have hK := C0.2.2.2.2.2.2.2.2.1
  have hcell := (hH a 20 vs ha).arr (by decide) (by decide)
  rw [if_neg (by decide)] at hcell
  have hnm := va_nm_int (hK.1.2 0 _ rfl).2
  obtain ⟨c0, t0', f1, f2, f3⟩ := Cond.castable_spec (va_Nw.use (A := args) rfl (hK.2.1 _ (tbX_in wo_castable_0 rfl)))
  cases hnm.symm.trans f1
  intro T hT X
  have hcellT : T.heap[a]? = some (aCell (G.2.1 20) vs) := by rw [hT]; exact hcell
  have hAr := aCell_arr hK (k := 20) (by decide) (by decide) vs
  obtain ⟨-, kA, hkA, comp, hkind⟩ := State.isArrayOf_alike X.warmed.alike hAr
  obtain ⟨-, kS, hkS, compS, hkindS⟩ := hAr
  obtain ⟨vm', X', st'⟩ := X.cloneArray C0.1 C0.2.2.2.2.2.1 (hts _ (tb_in ml rfl)) (hts _ (tb_in wo_sameMethod_1 rfl)) (hts _ (tb_in wo_native_2 rfl)) (hts _ (tb_in wi_clone rfl)) (hts _ (tb_in wzo_50 rfl)) (a := a) (cell := aCell (G.2.1 20) vs) hcellT (fun k h => by cases h) (fun h => by cases h) hnm f2 f3
    (fun i v hv => by
      have hk' : T.vm.classes[G.2.1 20]? = some kA := hkA
      have hlt : i < vs.length := by have := (Array.getElem?_eq_some_iff.mp hv).1; rw [aCell_size] at this; exact this
      rw [aCell_read _ (List.getElem?_eq_getElem hlt)] at hv
      cases hv
      obtain ⟨x, hx⟩ := hi vs[i] (List.getElem_mem hlt)
      rw [hx]
      have hkind2 : kA.kind = .array comp .int := hkind
      show State.fitsSlot T (G.2.1 20) _ i (.int x) = true
      simp [State.fitsSlot, State.slotType?, hk', hkind2, fits, aCell, arrV])
    (g := F0 m pc ls (.ref a :: st)) rfl (by rw [C0.2.2.2.1]; exact hl0.1) rfl (by rw [C0.2.1]; exact d1) (by show 1 ≤ M.2.2.2.2.1; exact hd) (by show 2 * 0 + _ + 14 ≤ 38 * M.2.2.2.2.1; omega) (by show cells + 1 ≤ M.2.2.2.2.2.1; omega) (by rw [aCell_size]; show slots + vs.length ≤ M.2.2.2.2.2.2; omega) (hloader := Vm.clonesLoader_of_array hkS hkindS)
  have hcellE : ({ cls := (aCell (G.2.1 20) vs).cls, slots := (aCell (G.2.1 20) vs).slots } : Cell) = aCell (G.2.1 20) vs := rfl
  rw [hcellE, aCell_size] at X'
  generalize hH1 : H.push (aCell (G.2.1 20) vs) = H1
  have z1 : H1.size = H.size + 1 := by rw [← hH1, Array.size_push]
  have e1 : H1[H.size]? = some (aCell (G.2.1 20) vs) := by rw [← hH1, Array.getElem?_push_size]
  have o1 : ∀ q : Nat, q < H.size → H1[q]? = H[q]? := fun q hq => by rw [← hH1, Array.getElem?_push, if_neg (Nat.ne_of_lt hq)]
  obtain ⟨t, b1, b2⟩ := kk H.size (hH.none (Nat.le_refl _)) p l e s m args below meth c A H1 locs (cells + 1) (slots + vs.length) ls ⟨C0, hH.push (cIs.ofArr (by decide) (by decide) e1) o1, hD.put _ (C0.2.2.2.2.2.2.2.2.2 _ hS.1), push_S hS z1 o1, by constructor <;> omega, hl0⟩ ((T.setVm vm').pushCell (aCell (G.2.1 20) vs)) (by rw [← hH1, ← hT]; rfl) X'
  refine ⟨t, st' t ?_, b2⟩
  rw [hcellE, hT]
  exact b1
end Rows
