/-! more rows: Math.max, Math.min, casts, the static empty array, class objects, System.arraycopy, clone, stores into Object[] -/
def cpyL (vs ws : List Value) (sp dp n : Nat) : List Value := (List.range ws.length).map (fun j => va_cpy (fun i => vs.getD i .null) (fun i => ws.getD i .null) sp dp n j)
theorem cpyL_len (vs ws : List Value) (sp dp n : Nat) : (cpyL vs ws sp dp n).length = ws.length := by simp [cpyL]
theorem cpyL_get {vs ws : List Value} {sp dp n j : Nat} (hj : j < ws.length) : (cpyL vs ws sp dp n)[j]? = some (if dp ≤ j ∧ j < dp + n then vs.getD (sp + (j - dp)) .null else ws.getD j .null) := by
  simp [cpyL, hj, va_cpy]
theorem aCell_cpy (c0 c1 : ClassId) {vs ws : List Value} {sp dp n : Nat} (hs : sp + n ≤ vs.length) : (aCell c1 ws).storeRun dp ((aCell c0 vs).stretch sp n) = aCell c1 (cpyL vs ws sp dp n) := by
  unfold aCell
  refine (va_copied (fun z => z) c0 c1 (fun j => vs.getD j .null) (fun j => ws.getD j .null) hs).trans ?_
  rw [cpyL_len]
  unfold arrV
  congr 1
  congr 1
  funext j
  dsimp only
  rw [List.getD_eq_getElem?_getD, cpyL_get j.2]
  rfl
section Rows
variable {G : Gk} {M : MI} {post : Option Value → Hp → Prop} {h : Hp} {cr sr pc pc2 : Nat} {lv : List (Option Value)} {st : List Value}
theorem V_castY {a kv idx : Nat} {vs : List Value} {r : vw_C} (d : DC M.2.1 pc (.checkcast idx) 3 pc2) (ha : h a = some (kv, vs)) (hc : vwCl[kv]? = some r) (hl : Cond.classLink M.1.cls idx r.1 ∈ lw_tbl) (hcb : Cond.castable r.1 r.1 ∈ lw_tbl) (k : V G M post h cr sr pc2 lv (.ref a :: st)) : V G M post h cr sr pc lv (.ref a :: st) := by
  intro p l e s m args below meth c A H locs cells slots ls S
  have S0 := S
  obtain ⟨C0, hH, hD, hS, hb, hl0⟩ := S
  obtain ⟨d1, rfl⟩ := d
  have hts := C0.2.2.2.2.2.2.2.1
  have hK := C0.2.2.2.2.2.2.2.2.1
  obtain ⟨r', hr', ⟨cellV, g1, g2, g3, -⟩, -⟩ := (hH a kv vs ha).obj (cls_lt hc)
  have hcls := (hK.1.1 kv r hc).2
  refine va_castY C0.1 C0.2.1 C0.2.2.2.2.2.1 (hts _ (tb_in hl rfl)) (hK.2.1 _ (tbX_in hcb rfl)) ⟨cellV, g1, by rw [g3]; rfl, by rw [g2]; exact hcls.1⟩ d1 ?_
  exact k p l e s m args below meth c A H locs cells slots ls S0
theorem V_castN {idx : Nat} (d : DC M.2.1 pc (.checkcast idx) 3 pc2) (k : V G M post h cr sr pc2 lv (.null :: st)) : V G M post h cr sr pc lv (.null :: st) := by
  obtain ⟨d1, rfl⟩ := d
  exact Vpure (fun hx hb hl _ _ w => lv_castN hx hb d1 (w _ hl)) k
theorem V_castI {a idx : Nat} {vs : List Value} (d : DC M.2.1 pc (.checkcast idx) 3 pc2) (ha : h a = some (20, vs)) (hl : Cond.classLink M.1.cls idx "[I" ∈ lw_tbl) (k : V G M post h cr sr pc2 lv (.ref a :: st)) : V G M post h cr sr pc lv (.ref a :: st) := by
  intro p l e s m args below meth c A H locs cells slots ls S
  have S0 := S
  obtain ⟨C0, hH, hD, hS, hb, hl0⟩ := S
  obtain ⟨d1, rfl⟩ := d
  have hts := C0.2.2.2.2.2.2.2.1
  have hK := C0.2.2.2.2.2.2.2.2.1
  have hcell := (hH a 20 vs ha).arr (by decide) (by decide)
  rw [if_neg (by decide)] at hcell
  refine va_castE C0.1 C0.2.1 C0.2.2.2.2.2.1 (hts _ (tb_in hl rfl)) ⟨_, hcell, rfl, va_nm_int (hK.1.2 0 _ rfl).2⟩ d1 ?_
  exact k p l e s m args below meth c A H locs cells slots ls S0
/-- the static empty array -/
theorem V_getsE (d : DC M.2.1 pc (.getstatic 39) 3 pc2) (hM : M.1.cls = "java/util/ArrayList") (hz : h G.2.2.2.1 = some (30, [])) (k : V G M post h cr sr pc2 lv (.ref G.2.2.1 :: st)) : V G M post h cr sr pc lv st := by
  intro p l e s m args below meth c A H locs cells slots ls S
  have S0 := S
  obtain ⟨C0, hH, hD, hS, hb, hl0⟩ := S
  obtain ⟨d1, rfl⟩ := d
  have hts := C0.2.2.2.2.2.2.2.1
  have hK := C0.2.2.2.2.2.2.2.2.1
  obtain ⟨cf, kf, fi, f, h1, h2, h3, h4, h5⟩ := hK.2.2.2.1
  have hcell := hH _ _ _ hz
  unfold cIs at hcell
  rw [if_neg (by decide), if_pos rfl] at hcell
  obtain ⟨cell, g1, g2, g3⟩ := hcell
  have hown := C0.2.2.2.2.2.1
  rw [hM] at hown
  refine W.gets C0.1 C0.2.1 hown (hts _ (tb_in fls_al_39 rfl)) h1 h2 h3 h4 g1 (fun e => by rw [e] at g2; cases g2) (by rw [h5]; exact g3) rfl d1 ?_
  exact k p l e s m args below meth c A H locs cells slots ls S0
theorem V_ldcM {idx : Nat} (d : DC M.2.1 pc (.ldc idx) 2 pc2) (hl : Cond.classLink M.1.cls idx "[Ljava/lang/Object;" ∈ lw_tbl) (k : V G M post h cr sr pc2 lv (.ref G.2.2.2.2.2 :: st)) : V G M post h cr sr pc lv st := by
  intro p l e s m args below meth c A H locs cells slots ls S
  have S0 := S
  obtain ⟨C0, hH, hD, hS, hb, hl0⟩ := S
  obtain ⟨d1, rfl⟩ := d
  have hts := C0.2.2.2.2.2.2.2.1
  have hK := C0.2.2.2.2.2.2.2.2.1
  refine va_ldcM C0.1 C0.2.1 C0.2.2.2.2.2.1 (hts _ (tb_in hl rfl)) hK.2.2.1 d1 ?_
  exact k p l e s m args below meth c A H locs cells slots ls S0
theorem obj_arr {G : Gk} {s : State} (hK : KK G s) : s.vm.findClass "[Ljava/lang/Object;" = some (G.2.1 27) := va_nmO (hK.1.2 7 _ rfl).2 (by decide +kernel)
theorem V_getC {a k0 idx : Nat} {vs : List Value} (d : DC M.2.1 pc (.invokevirtual idx) 3 pc2) (ml : Cond.methodLink M.1.cls idx ⟨"java/lang/Object", "getClass", "()Ljava/lang/Class;"⟩ ∈ lw_tbl) (ha : h a = some (k0, vs)) (hk : k0 = 27 ∨ False) (hd : 1 ≤ M.2.2.2.2.1) (hw : (st.map fun v => v.category).sum ≤ 8) (k : V G M post h cr sr pc2 lv (.ref G.2.2.2.2.2 :: st)) : V G M post h cr sr pc lv (.ref a :: st) := by
  intro p l e s m args below meth c A H locs cells slots ls S
  have S0 := S
  obtain ⟨C0, hH, hD, hS, hb, hl0⟩ := S
  obtain ⟨d1, rfl⟩ := d
  have hts := C0.2.2.2.2.2.2.2.1
  have hK := C0.2.2.2.2.2.2.2.2.1
  have hcell : H[a]? = some (aCell (G.2.1 27) vs) := by
    rcases hk with rfl | hk
    · exact (hH a 27 vs ha).arr (by omega) (by omega)
    · exact hk.elim
  refine va_getC C0.1 C0.2.1 (by rw [C0.2.2.2.1]; exact hl0.1.symm) C0.2.2.2.2.2.1 (hts _ (tb_in ml rfl)) (va_Nw.use (A := args) rfl (hK.2.1 _ (tbX_in wo_declares_0 rfl))) (hts _ (tb_in wzo_109 rfl)) (hts _ (tb_in wi_getClass rfl)) (hts _ (tb_in wo_native_0 rfl)) hK.2.2.1 ⟨_, hcell, rfl, obj_arr hK⟩ (by show 1 ≤ M.2.2.2.2.1; exact hd) (by show _ + 14 ≤ 38 * M.2.2.2.2.1; omega) d1 ?_
  exact k p l e s m args below meth c A H locs cells slots ls S0
theorem toInt_cl {z : Int32} {n : Nat} (h : z = nI n) (hn : n < 2147483648) : z.toInt = n := by subst h; exact nI_toInt hn
/-- System.arraycopy of ints -/
theorem V_acpI {a0 a idx : Nat} {vs ws : List Value} {sp dp n : Int32} (s0 d0 n0 : Nat) (d : DC M.2.1 pc (.invokestatic idx) 3 pc2) (ml : Cond.methodLink M.1.cls idx arraycopyName ∈ lw_tbl) (ha0 : h a0 = some (20, vs)) (ha : h a = some (20, ws)) (e1 : sp = nI s0) (e2 : dp = nI d0) (e3 : n = nI n0) (h4 : s0 + n0 ≤ vs.length) (h5 : d0 + n0 ≤ ws.length) (hv : vs.length < 2147483648) (hw' : ws.length < 2147483648) (hi : ∀ v, v ∈ vs → ∃ x, v = .int x) (hd : 1 ≤ M.2.2.2.2.1) (hw : (st.map fun v => v.category).sum ≤ 8)
    (kk : V G M post (hu h a (20, cpyL vs ws s0 d0 n0)) cr sr pc2 lv st) : V G M post h cr sr pc lv (.int n :: .int dp :: .ref a :: .int sp :: .ref a0 :: st) := by
  intro p l e s m args below meth c A H locs cells slots ls S
  obtain ⟨C0, hH, hD, hS, hb, hl0⟩ := S
  obtain ⟨d1, rfl⟩ := d
  have hts := C0.2.2.2.2.2.2.2.1
  have hK := C0.2.2.2.2.2.2.2.2.1
  have hAa : A a := hD a 20 ws ha (by decide)
  have c0 := (hH a0 20 vs ha0).arr (by decide) (by decide)
  have c1 := (hH a 20 ws ha).arr (by decide) (by decide)
  rw [if_neg (by decide)] at c0 c1
  obtain ⟨-, k0, hk0, cm0, hkk0⟩ := aCell_arr hK (k := 20) (by decide) (by decide) vs
  obtain ⟨-, k1, hk1, cm1, hkk1⟩ := aCell_arr hK (k := 20) (by decide) (by decide) ws
  subst e1 e2 e3
  have q1 : (nI s0).toNatClampNeg = s0 := nI_clamp (by omega)
  have q2 : (nI d0).toNatClampNeg = d0 := nI_clamp (by omega)
  have q3 : (nI n0).toNatClampNeg = n0 := nI_clamp (by omega)
  intro T hT X
  obtain ⟨vm', X', step⟩ := X.arraycopy C0.1 C0.2.2.2.2.2.1 (hts _ (tb_in ml rfl)) (hts _ (tb_in wo_native_1 rfl)) (hts _ (tb_in ws_arraycopy rfl)) (hts _ (tb_in wini_java_lang_System rfl)) (src := a0) (dst := a) (cs := aCell (G.2.1 20) vs) (cd := aCell (G.2.1 20) ws) (srcPos := nI s0) (destPos := nI d0) (n := nI n0) (by rw [hT]; exact c0) (by rw [hT]; exact c1)
    (fun _ h => by cases h) (fun _ h => by cases h) (fun h => by cases h) (fun h => by cases h) hk0 hk1 hkk0 hkk1 rfl (nI_pos (by omega)) (nI_pos (by omega)) (nI_pos (by omega))
    (by rw [nI_toInt (by omega), nI_toInt (by omega), aCell_size]; omega)
    (by rw [nI_toInt (by omega), nI_toInt (by omega), aCell_size]; omega)
    (fun vm₁ _ i hi' => by
      rw [q3] at hi'
      rw [q1]
      have hlt : s0 + i < vs.length := by omega
      obtain ⟨x, hx⟩ := hi vs[s0 + i] (List.getElem_mem hlt)
      have e : (aCell (G.2.1 20) vs).slots.getD (s0 + i) .null = .int x := by
        rw [Array.getD_eq_getD_getElem?, aCell_read _ (List.getElem?_eq_getElem hlt), hx]
        rfl
      rw [e]
      exact ⟨rfl, trivial⟩)
    (g := F0 m pc ls (.int (nI n0) :: .int (nI d0) :: .ref a :: .int (nI s0) :: .ref a0 :: st)) rfl (by rw [C0.2.2.2.1]; exact hl0.1) (rest := st) rfl (by rw [C0.2.1]; exact d1) (by show 1 ≤ M.2.2.2.2.1; exact hd) (by show 2 * 0 + _ + _ ≤ 38 * M.2.2.2.2.1; have hwn : nativeFrameWords "java/lang/System" "arraycopy" 5 ≤ 18 := (by decide); omega)
  have ec : copied (aCell (G.2.1 20) vs) (aCell (G.2.1 20) ws) (nI s0) (nI d0) (nI n0) = aCell (G.2.1 20) (cpyL vs ws s0 d0 n0) := by
    unfold copied
    rw [q1, q2, q3]
    exact aCell_cpy _ _ h4
  rw [ec] at X' step
  have hl : a < H.size := (Array.getElem?_eq_some_iff.mp c1).1
  have oq : ∀ q : Nat, q ≠ a → (H.setIfInBounds a (aCell (G.2.1 20) (cpyL vs ws s0 d0 n0)))[q]? = H[q]? := fun q hq => by simp [Array.getElem?_setIfInBounds, Ne.symm hq]
  have e0 : (H.setIfInBounds a (aCell (G.2.1 20) (cpyL vs ws s0 d0 n0)))[a]? = some (aCell (G.2.1 20) (cpyL vs ws s0 d0 n0)) := by simp [Array.getElem?_setIfInBounds, hl]
  obtain ⟨t, b1, b2⟩ := kk p l e s m args below meth c A (H.setIfInBounds a (aCell (G.2.1 20) (cpyL vs ws s0 d0 n0))) _ cells slots ls ⟨C0, hH.put (cIs.ofArr (by decide) (by decide) e0) oq, hD.put _ hAa, ⟨by simp; exact hS.1, fun q g1 g2 => by
      rw [oq q (fun e => g2 (by rw [e]; exact hAa))]
      exact hS.2.1 q g1 g2, fun q hq => by
      rcases List.mem_append.mp hq with h | h
      · exact hS.2.2 q h
      · obtain ⟨z, -, hz⟩ := List.mem_map.mp h
        rw [← hz]
        exact hAa⟩, hb, hl0⟩ _ (by rw [← hT]; rfl) X'
  exact ⟨t, step t b1, b2⟩
end Rows
theorem wc_max : Cond.code Lib.Math.max.name Lib.Math.max.code 2 (some .int) ∈ lw_tbl := List.mem_append_right _ (List.mem_append_right _ (List.mem_append_left _ (List.mem_of_getElem? (i := 112) rfl)))
theorem wc_min : Cond.code Lib.Math.min.name Lib.Math.min.code 2 (some .int) ∈ lw_tbl := List.mem_append_right _ (List.mem_append_right _ (List.mem_append_right _ (List.mem_append_left _ (List.mem_of_getElem? (i := 39) rfl))))
section Rows
variable {G : Gk} {M : MI} {post : Option Value → Hp → Prop} {h : Hp} {cr sr pc pc2 : Nat} {lv : List (Option Value)} {st : List Value}
theorem V_mmax {x y : Int32} {idx : Nat} (d : DC M.2.1 pc (.invokestatic idx) 3 pc2) (ml : Cond.methodLink M.1.cls idx yJ9_max_7cf53 ∈ lw_tbl) (hd : 1 ≤ M.2.2.2.2.1) (hw : (st.map fun v => v.category).sum ≤ 8) (k : V G M post h cr sr pc2 lv (.int (if x < y then y else x) :: st)) : V G M post h cr sr pc lv (.int y :: .int x :: st) := by
  intro p l e s m args below meth c A H locs cells slots ls S
  have S0 := S
  obtain ⟨C0, hH, hD, hS, hb, hl0⟩ := S
  obtain ⟨d1, rfl⟩ := d
  have hts := C0.2.2.2.2.2.2.2.1
  refine va_mmax C0.1 C0.2.1 (by rw [C0.2.2.2.1]; exact hl0.1.symm) C0.2.2.2.2.2.1 (hts _ (tb_in ml rfl)) (hts _ (tb_in ws_mt_max rfl)) (hts _ (tb_in wini_mt rfl)) (hts _ (tb_in wc_max rfl)) (by show 1 ≤ M.2.2.2.2.1; exact hd) (by show _ + 13 ≤ 38 * M.2.2.2.2.1; omega) (by show cells ≤ M.2.2.2.2.2.1; omega) (by show slots ≤ M.2.2.2.2.2.2; omega) d1 ?_
  exact k p l e s m args below meth c A H locs cells slots ls S0
theorem V_mmin {x y : Int32} {idx : Nat} (d : DC M.2.1 pc (.invokestatic idx) 3 pc2) (ml : Cond.methodLink M.1.cls idx yJ9_min_7cf53 ∈ lw_tbl) (hd : 1 ≤ M.2.2.2.2.1) (hw : (st.map fun v => v.category).sum ≤ 8) (k : V G M post h cr sr pc2 lv (.int (if y < x then y else x) :: st)) : V G M post h cr sr pc lv (.int y :: .int x :: st) := by
  intro p l e s m args below meth c A H locs cells slots ls S
  have S0 := S
  obtain ⟨C0, hH, hD, hS, hb, hl0⟩ := S
  obtain ⟨d1, rfl⟩ := d
  have hts := C0.2.2.2.2.2.2.2.1
  refine va_mmin C0.1 C0.2.1 (by rw [C0.2.2.2.1]; exact hl0.1.symm) C0.2.2.2.2.2.1 (hts _ (tb_in ml rfl)) (hts _ (tb_in ws_mt_min rfl)) (hts _ (tb_in wini_mt rfl)) (hts _ (tb_in wc_min rfl)) (by show 1 ≤ M.2.2.2.2.1; exact hd) (by show _ + 13 ≤ 38 * M.2.2.2.2.1; omega) (by show cells ≤ M.2.2.2.2.2.1; omega) (by show slots ≤ M.2.2.2.2.2.2; omega) d1 ?_
  exact k p l e s m args below meth c A H locs cells slots ls S0
/-- an element of the lists: nothing, an edit, a group -/
def eO (h : Hp) (v : Value) : Prop := v = .null ∨ ∃ y kv ws, v = .ref y ∧ h y = some (kv, ws) ∧ (kv = 1 ∨ kv = 3)
theorem eO_cell {h : Hp} {H : Heap} {s : State} (hH : HR G h H) (hK : KK G s) {y kv : Nat} {ws : List Value} (hy : h y = some (kv, ws)) (hk : kv = 1 ∨ kv = 3) : ∃ (cellV : Cell) (cO : ClassId), H[y]? = some cellV ∧ cellV.vm.isStatics = false ∧ (∃ kC, s.vm.classes[cellV.cls]? = some kC) ∧ s.vm.findClass "java/lang/Object" = some cO ∧ s.vm.assignable cellV.cls cO = true := by
  rcases hk with rfl | rfl
  · obtain ⟨r', hr', ⟨cellV, g1, g2, g3, -⟩, -⟩ := (hH y 1 ws hy).obj (by decide)
    have hcls := (hK.1.1 1 _ rfl).2
    obtain ⟨c0, t0, f1, f2, f3⟩ := Cond.castable_spec (va_Nw.use (A := #[]) rfl (hK.2.1 _ (tbX_in wo_castable_12 rfl)))
    cases hcls.1.symm.trans f1
    obtain ⟨kC, hkC, -⟩ := hcls.2
    exact ⟨cellV, t0, g1, by rw [g3]; rfl, ⟨kC, by rw [g2]; exact hkC⟩, f2, by rw [g2]; exact f3⟩
  · obtain ⟨r', hr', ⟨cellV, g1, g2, g3, -⟩, -⟩ := (hH y 3 ws hy).obj (by decide)
    have hcls := (hK.1.1 3 _ rfl).2
    obtain ⟨c0, t0, f1, f2, f3⟩ := Cond.castable_spec (va_Nw.use (A := #[]) rfl (hK.2.1 _ (tbX_in wo_castable_13 rfl)))
    cases hcls.1.symm.trans f1
    obtain ⟨kC, hkC, -⟩ := hcls.2
    exact ⟨cellV, t0, g1, by rw [g3]; rfl, ⟨kC, by rw [g2]; exact hkC⟩, f2, by rw [g2]; exact f3⟩
theorem V_aastO {a b kv : Nat} {vs ws : List Value} {i : Int32} (j : Nat) (d : DC M.2.1 pc .aastore 1 pc2) (ha : h a = some (27, vs)) (hbv : h b = some (kv, ws)) (hkv : kv = 1 ∨ kv = 3) (hi : i = nI j) (hj : j < 2147483648) (hv : j < vs.length) (kk : V G M post (hu h a (27, vs.set j (.ref b))) cr sr pc2 lv st) : V G M post h cr sr pc lv (.ref b :: .int i :: .ref a :: st) := by
  intro p l e s m args below meth c A H locs cells slots ls S
  obtain ⟨C0, hH, hD, hS, hb, hl0⟩ := S
  obtain ⟨d1, rfl⟩ := d
  have hK := C0.2.2.2.2.2.2.2.2.1
  have hAa : A a := hD a 27 vs ha (by omega)
  obtain ⟨cellV, cO, g1, g2, ⟨kC, hkC⟩, g4, g5⟩ := eO_cell hH hK hbv hkv
  have hra := (hK.1.2 7 _ rfl).2
  obtain ⟨kA, comp, k1, k2, k3, -⟩ := hra
  have hcomp : comp = cO := Option.some.inj (k3.symm.trans g4)
  subst hcomp
  obtain ⟨kO, hkO, -⟩ := Vm.findClass_spec g4
  have hcell := (hH a 27 vs ha).arr (by omega) (by omega)
  rw [if_neg (by omega)] at hcell
  subst hi
  have hcn : (nI j).toNatClampNeg = j := nI_clamp (by omega)
  refine W.aast C0.1 C0.2.1 hcell (fun q h => by cases h) (fun h => by cases h) k1 k2 rfl hkO ⟨nI_pos (by omega), by rw [hcn, aCell_size]; exact hv⟩ g1 (fun q h => by rw [h] at g2; cases g2) hkC g5 rfl rfl d1 fun H' e1 e2 e3 => ?_
  refine kk p l e s m args below meth c A H' _ cells slots ls ⟨C0, hH.put (cIs.ofArr (by omega) (by omega) ?_) e3, hD.put _ hAa, hS.put e2 e3 hAa, hb, hl0⟩
  rw [e1, hcn]
  exact congrArg some (aCell_store _ _ hv)
/-- System.arraycopy between arrays of objects -/
theorem V_acpO {a0 a k0 idx : Nat} {vs ws : List Value} {sp dp n : Int32} (s0 d0 n0 : Nat) (d : DC M.2.1 pc (.invokestatic idx) 3 pc2) (ml : Cond.methodLink M.1.cls idx arraycopyName ∈ lw_tbl) (ha0 : h a0 = some (k0, vs)) (hk0 : k0 = 27 ∨ False) (ha : h a = some (27, ws)) (e1 : sp = nI s0) (e2 : dp = nI d0) (e3 : n = nI n0) (h4 : s0 + n0 ≤ vs.length) (h5 : d0 + n0 ≤ ws.length) (hv : vs.length < 2147483648) (hw' : ws.length < 2147483648) (hi : ∀ v, v ∈ vs → eO h v) (hd : 1 ≤ M.2.2.2.2.1) (hw : (st.map fun v => v.category).sum ≤ 8)
    (kk : V G M post (hu h a (27, cpyL vs ws s0 d0 n0)) cr sr pc2 lv st) : V G M post h cr sr pc lv (.int n :: .int dp :: .ref a :: .int sp :: .ref a0 :: st) := by
  intro p l e s m args below meth c A H locs cells slots ls S
  obtain ⟨C0, hH, hD, hS, hb, hl0⟩ := S
  obtain ⟨d1, rfl⟩ := d
  have hts := C0.2.2.2.2.2.2.2.1
  have hK := C0.2.2.2.2.2.2.2.2.1
  have hAa : A a := hD a 27 ws ha (by decide)
  have c0 : H[a0]? = some (aCell (G.2.1 27) vs) := by
    rcases hk0 with rfl | hk0
    · exact (hH a0 27 vs ha0).arr (by omega) (by omega)
    · exact hk0.elim
  have c1 := (hH a 27 ws ha).arr (by decide) (by decide)
  rw [if_neg (by decide)] at c1
  obtain ⟨-, k0', hk0', cm0, hkk0⟩ := aCell_arr hK (k := 27) (by decide) (by decide) vs
  obtain ⟨-, k1, hk1, cm1, hkk1⟩ := aCell_arr hK (k := 27) (by decide) (by decide) ws
  subst e1 e2 e3
  have q1 : (nI s0).toNatClampNeg = s0 := nI_clamp (by omega)
  have q2 : (nI d0).toNatClampNeg = d0 := nI_clamp (by omega)
  have q3 : (nI n0).toNatClampNeg = n0 := nI_clamp (by omega)
  intro T hT X
  obtain ⟨vm', X', step⟩ := X.arraycopy C0.1 C0.2.2.2.2.2.1 (hts _ (tb_in ml rfl)) (hts _ (tb_in wo_native_1 rfl)) (hts _ (tb_in ws_arraycopy rfl)) (hts _ (tb_in wini_java_lang_System rfl)) (src := a0) (dst := a) (cs := aCell (G.2.1 27) vs) (cd := aCell (G.2.1 27) ws) (srcPos := nI s0) (destPos := nI d0) (n := nI n0) (by rw [hT]; exact c0) (by rw [hT]; exact c1)
    (fun _ h => by cases h) (fun _ h => by cases h) (fun h => by cases h) (fun h => by cases h) hk0' hk1 hkk0 hkk1 rfl (nI_pos (by omega)) (nI_pos (by omega)) (nI_pos (by omega))
    (by rw [nI_toInt (by omega), nI_toInt (by omega), aCell_size]; omega)
    (by rw [nI_toInt (by omega), nI_toInt (by omega), aCell_size]; omega)
    (fun vm₁ hal i hi' => by
      rw [q3] at hi'
      rw [q1]
      have hlt : s0 + i < vs.length := by omega
      have e : (aCell (G.2.1 27) vs).slots.getD (s0 + i) .null = vs[s0 + i] := by
        rw [Array.getD_eq_getD_getElem?, aCell_read _ (List.getElem?_eq_getElem hlt)]
        rfl
      rw [e]
      rcases hi vs[s0 + i] (List.getElem_mem hlt) with q | ⟨y, kv, ws', q, hy, hkv⟩
      · rw [q]; exact ⟨rfl, trivial⟩
      · rw [q]
        obtain ⟨cellV, cO, g1, g2, ⟨kC, hkC⟩, g4, g5⟩ := eO_cell hH hK hy hkv
        obtain ⟨kA, comp, r1, r2, r3, -⟩ := (hK.1.2 7 _ rfl).2
        cases hk1.symm.trans r1
        cases hkk1.symm.trans r2
        cases r3.symm.trans g4
        obtain ⟨kE, hkE, -⟩ := Vm.findClass_spec r3
        obtain ⟨kC', hkC', -⟩ := hal.2.2 _ _ hkC
        obtain ⟨kE', hkE', -⟩ := hal.2.2 _ _ hkE
        refine ⟨rfl, cellV, (show T.heap[y]? = some cellV by rw [hT]; exact g1), (fun q h => by rw [h] at g2; cases g2), ⟨kC', hkC'⟩, ?_, ?_⟩
        · exact ⟨kE', hkE'⟩
        · show vm₁.assignable _ _ = true
          rw [hal.assignable]
          exact g5)
    (g := F0 m pc ls (.int (nI n0) :: .int (nI d0) :: .ref a :: .int (nI s0) :: .ref a0 :: st)) rfl (by rw [C0.2.2.2.1]; exact hl0.1) (rest := st) rfl (by rw [C0.2.1]; exact d1) (by show 1 ≤ M.2.2.2.2.1; exact hd) (by show 2 * 0 + _ + _ ≤ 38 * M.2.2.2.2.1; have hwn : nativeFrameWords "java/lang/System" "arraycopy" 5 ≤ 18 := (by decide); omega)
  have ec : copied (aCell (G.2.1 27) vs) (aCell (G.2.1 27) ws) (nI s0) (nI d0) (nI n0) = aCell (G.2.1 27) (cpyL vs ws s0 d0 n0) := by
    unfold copied
    rw [q1, q2, q3]
    exact aCell_cpy _ _ h4
  rw [ec] at X' step
  have hl : a < H.size := (Array.getElem?_eq_some_iff.mp c1).1
  have oq : ∀ q : Nat, q ≠ a → (H.setIfInBounds a (aCell (G.2.1 27) (cpyL vs ws s0 d0 n0)))[q]? = H[q]? := fun q hq => by simp [Array.getElem?_setIfInBounds, Ne.symm hq]
  have e0 : (H.setIfInBounds a (aCell (G.2.1 27) (cpyL vs ws s0 d0 n0)))[a]? = some (aCell (G.2.1 27) (cpyL vs ws s0 d0 n0)) := by simp [Array.getElem?_setIfInBounds, hl]
  obtain ⟨t, b1, b2⟩ := kk p l e s m args below meth c A (H.setIfInBounds a (aCell (G.2.1 27) (cpyL vs ws s0 d0 n0))) _ cells slots ls ⟨C0, hH.put (cIs.ofArr (by decide) (by decide) e0) oq, hD.put _ hAa, ⟨by simp; exact hS.1, fun q g1 g2 => by
      rw [oq q (fun e => g2 (by rw [e]; exact hAa))]
      exact hS.2.1 q g1 g2, fun q hq => by
      rcases List.mem_append.mp hq with h | h
      · exact hS.2.2 q h
      · obtain ⟨z, -, hz⟩ := List.mem_map.mp h
        rw [← hz]
        exact hAa⟩, hb, hl0⟩ _ (by rw [← hT]; rfl) X'
  exact ⟨t, step t b1, b2⟩
end Rows
