/-! THE LAW's ENTRY: what the tables and the premises give -/
theorem arr_obj {A : Array Value} {s : State} {C : String} (h : (Cond.arrayOver (.object C)).before A s = true) : ∃ c, ArrOfT s c (.object C) ∧ va_RA s c (.object C) := by
  obtain ⟨comp, c, k, h1, _, h3, h4, h5⟩ := Cond.arrayOver_spec h
  exact ⟨c, fun n z => ⟨fun _ h => (by cases h), k, h3, comp, h4⟩, k, comp, h3, h4, h1, h5⟩
theorem arr_arr {A : Array Value} {s : State} (h : (Cond.arrayOver (.array .int)).before A s = true) : ∃ c, ArrOfT s c (.array .int) ∧ va_RA s c (.array .int) := by
  obtain ⟨comp, c, k, h1, _, h3, h4, h5⟩ := arrayOverA_spec h
  exact ⟨c, fun n z => ⟨fun _ h => (by cases h), k, h3, comp, h4⟩, h5⟩
theorem arr_int {A : Array Value} {s : State} (h : (Cond.arrayClass .int).before A s = true) : ∃ c, ArrOfT s c .int ∧ va_RA s c .int := by
  obtain ⟨c, k, comp, h1, h2, h3⟩ := Cond.arrayClass_spec h
  exact ⟨c, fun n z => ⟨fun _ h => (by cases h), k, h2, comp, h3⟩, h1⟩
theorem arr_bool {A : Array Value} {s : State} (h : (Cond.arrayClass .boolean).before A s = true) : ∃ c, ArrOfT s c .boolean ∧ va_RA s c .boolean := by
  obtain ⟨c, k, comp, h1, h2, h3⟩ := Cond.arrayClass_spec h
  exact ⟨c, fun n z => ⟨fun _ h => (by cases h), k, h2, comp, h3⟩, h1⟩
theorem cls_known {s : State} {A : Array Value} (hts : ∀ w ∈ lw_tbl, w.before A s = true) {k : Nat} {r : vw_C} (hc : vwCl[k]? = some r) : ∃ q : ClassId × (Nat → Nat), u_Kn s r.1 r.2.1 r.2.2 q.1 q.2 := by
  have key : ∀ {C : String} {T : u_T} {N : Nat}, (∀ w ∈ u_ws C T N, w ∈ lw_tbl) → Cond.instantiable C N ∈ lw_tbl → ∃ q : ClassId × (Nat → Nat), u_Kn s C T N q.1 q.2 := by
    intro C T N h1 h2
    obtain ⟨c, i, h⟩ := u_known (n := N) hts h1 (hts _ h2)
    exact ⟨(c, i), h⟩
  exact cls_all (P := fun _ r => ∃ q : ClassId × (Nat → Nat), u_Kn s r.1 r.2.1 r.2.2 q.1 q.2) (key tb_lay_0 wm_al) (key tb_lay_1 wm_ed) (key tb_lay_2 wm_fd) (key tb_lay_3 wm_gr) (key tb_lay_4 wm_hi) (key tb_lay_5 wm_pa) (key tb_lay_6 wm_pt) (key tb_lay_7 wm_re) (key tb_lay_8 wm_sh) (key tb_lay_9 wm_so) (key tb_lay_10 wm_th) (key tb_lay_11 wm_wa) (key tb_lay_12 wm_fe) (key tb_lay_13 wm_md) hc
theorem not_statics {d : VmData} (h : ∀ k, d ≠ .statics k) : d.isStatics = false := by
  cases d <;> first | rfl | exact absurd rfl (h _)
def scrL (L : Nat) (xs : Nat → Int32) : List Value := (List.range L).map (fun j => Value.int (xs j))
theorem scrL_len (L : Nat) (xs : Nat → Int32) : (scrL L xs).length = L := by simp [scrL]
theorem scrL_get {L : Nat} {xs : Nat → Int32} {j : Nat} (h : j < L) : (scrL L xs)[j]? = some (.int (xs j)) := by simp [scrL, h]
theorem entry {s : State} {b L : Nat} {xs : Nat → Int32} (hts : ∀ w ∈ lw_tbl, w.before #[Value.ref b] s = true) (hX : va_X b L xs s s.heap) (hgv : (Jvm.Cond.and given_1 narrow_1).before #[Value.ref b] s = true) :
    ∃ (G : Gk) (h : Hp), KK G s ∧ HR G h s.heap ∧ Zr G h ∧ h b = some (31, scrL L xs) ∧ ∀ a k vs, h a = some (k, vs) → 29 ≤ k := by
  have hfl := flat_of_before _ hgv
  obtain ⟨f, hf⟩ : ∃ f : Nat → ClassId × (Nat → Nat), ∀ k r, vwCl[k]? = some r → u_Kn s r.1 r.2.1 r.2.2 (f k).1 (f k).2 := by
    have : ∀ k : Nat, ∃ q : ClassId × (Nat → Nat), ∀ r : vw_C, vwCl[k]? = some r → u_Kn s r.1 r.2.1 r.2.2 q.1 q.2 := fun k => by
      cases e : vwCl[k]? with
      | none => exact ⟨(0, fun _ => 0), fun r h => by cases h⟩
      | some r0 =>
        obtain ⟨q, hq⟩ := cls_known hts e
        exact ⟨q, fun r h => by cases h; exact hq⟩
    exact ⟨fun k => (this k).choose, fun k => (this k).choose_spec⟩
  obtain ⟨c20, a20, b20⟩ := arr_int (hts _ wo_arrayClass_0)
  obtain ⟨c21, a21, b21⟩ := arr_bool (hts _ wo_arrayClass_1)
  obtain ⟨c22, a22, b22⟩ := arr_obj (hts _ wo_arrayOver_4)
  obtain ⟨c23, a23, b23⟩ := arr_obj (hts _ wo_arrayOver_2)
  obtain ⟨c24, a24, b24⟩ := arr_obj (hts _ wo_arrayOver_0)
  obtain ⟨c25, a25, b25⟩ := arr_obj (hts _ wo_arrayOver_1)
  obtain ⟨c26, a26, b26⟩ := arr_obj (hts _ wo_arrayOver_3)
  obtain ⟨c27, a27, b27⟩ := arr_obj (hts _ wo_arrayOver_6)
  obtain ⟨c28, a28, b28⟩ := arr_arr (hts _ wo_arrayOver_5)
  obtain ⟨scr, x1, x2, x3, x4, x5⟩ := hX
  obtain ⟨mi, hmi⟩ := va_Mi.of (C := "[Ljava/lang/Object;") (hfl (.isRef (.mirror "[Ljava/lang/Object;")) (by decide +kernel))
  have hex : (Cond.exactly (.static "java/util/ArrayList" "DEFAULTCAPACITY_EMPTY_ELEMENTDATA" "[Ljava/lang/Object;") "[Ljava/lang/Object;").before #[Value.ref b] s = true := hfl _ (by decide +kernel)
  have harr : (Cond.arrayOf (.static "java/util/ArrayList" "DEFAULTCAPACITY_EMPTY_ELEMENTDATA" "[Ljava/lang/Object;") (.object "java/lang/Object")).before #[Value.ref b] s = true := hfl _ (by decide +kernel)
  have hlen : (Cond.eq (.length (.static "java/util/ArrayList" "DEFAULTCAPACITY_EMPTY_ELEMENTDATA" "[Ljava/lang/Object;")) (.int 0)).before #[Value.ref b] s = true := hfl _ (by decide +kernel)
  obtain ⟨aE, cE, celE, kE, e1, e2, e3, e4, e5, e6, _⟩ := Cond.exactly_spec (args := #[Value.ref b]) (first := s) (o := none) (s := s) (idx := []) hex
  obtain ⟨o1, o2⟩ := Cond.arrayOf_spec harr e1 e3
  obtain ⟨aE', celE', g1, g2, g3⟩ := Term.length_spec (va_eqt hlen)
  cases e1.symm.trans g1
  obtain ⟨g4, _⟩ := State.arrayAt?_spec g2
  cases e3.symm.trans g4
  obtain ⟨cf, kf, fi, fld, aS, celS, z1, z2, z3, z4, z5, z6, z7, _⟩ := va_Zof (A := fun _ => False) (hts _ wo_laysStatic_0) (hts _ wini_al) e1 (fun _ _ h => h)
  have n1 : aS ≠ b := fun e => by
    rw [e, x1] at z5
    cases z5
    rw [not_statics x2.1] at z6
    cases z6
  have n2 : aS ≠ aE := fun e => by
    rw [e, e3] at z5
    cases z5
    rw [e5] at z6
    cases z6
  have n3 : aE ≠ b := fun e => by
    rw [e, x1] at e3
    cases e3
    obtain ⟨_, k1, hk1, comp1, hc1⟩ := x2
    obtain ⟨_, k2, hk2, comp2, hc2⟩ := o1
    cases hk1.symm.trans hk2
    rw [hc1] at hc2
    cases hc2
  let cl : Nat → ClassId := fun k => if k = 20 then c20 else if k = 21 then c21 else if k = 22 then c22 else if k = 23 then c23 else if k = 24 then c24 else if k = 25 then c25 else if k = 26 then c26 else if k = 27 then c27 else if k = 28 then c28 else scr.cls
  refine ⟨((fun k => (f k).1, fun k => (f k).2), cl, aE, aS, fld.slot, mi), fun a => if a = b then some (31, scrL L xs) else if a = aS then some (30, []) else if a = aE then some (29, []) else none, ⟨⟨hf, fun k q hq => ?_⟩, fun w hw => ?_, hmi, ⟨cf, kf, fi, fld, z1, z2, z3, z4, rfl⟩, ?_⟩, fun a k vs ha => ?_, ⟨?_, ?_⟩, if_pos rfl, fun a k vs ha => ?_⟩
  · match k, hq with
    | 0, hq => cases hq; exact ⟨a20, b20⟩
    | 1, hq => cases hq; exact ⟨a21, b21⟩
    | 2, hq => cases hq; exact ⟨a22, b22⟩
    | 3, hq => cases hq; exact ⟨a23, b23⟩
    | 4, hq => cases hq; exact ⟨a24, b24⟩
    | 5, hq => cases hq; exact ⟨a25, b25⟩
    | 6, hq => cases hq; exact ⟨a26, b26⟩
    | 7, hq => cases hq; exact ⟨a27, b27⟩
    | 8, hq => cases hq; exact ⟨a28, b28⟩
    | k + 9, hq => exact absurd (List.getElem?_eq_some_iff.mp hq).1 (by show ¬ k + 9 < 9; omega)
  · obtain ⟨w1, w2⟩ := List.mem_filter.mp hw
    have w3 := hts w w1
    cases w with
    | arrayOver t => exact w3
    | methodLinkNest a b c d => exact va_Nw.of rfl w3
    | castable a b => exact va_Nw.of rfl w3
    | declares a => exact va_Nw.of rfl w3
    | _ => simp [isX] at w2
  · obtain ⟨_, k1, hk1, comp1, hc1⟩ := x2
    exact ⟨k1, comp1, hk1, hc1⟩
  · dsimp only at ha
    by_cases q1 : a = b
    · rw [if_pos q1] at ha
      cases ha
      subst q1
      unfold cIs
      rw [if_neg (by decide), if_neg (by decide), if_neg (by decide)]
      exact ⟨scr, x1, not_statics x2.1, x3, rfl, by rw [x4, scrL_len]; rfl, fun j v hv => by
        have hj : j < L := by have := (List.getElem?_eq_some_iff.mp hv).1; rw [scrL_len] at this; exact this
        rw [scrL_get hj] at hv
        cases hv
        exact x5 j hj⟩
    · rw [if_neg q1] at ha
      by_cases q2 : a = aS
      · rw [if_pos q2] at ha
        cases ha
        subst q2
        unfold cIs
        rw [if_neg (by decide), if_pos rfl]
        exact ⟨celS, z5, z6, z7⟩
      · rw [if_neg q2] at ha
        by_cases q3 : a = aE
        · rw [if_pos q3] at ha
          cases ha
          subst q3
          unfold cIs
          rw [if_neg (by decide), if_neg (by decide), if_neg (by decide)]
          refine ⟨celE, e3, e5, o2, ?_, ?_, fun j v hv => by simp at hv⟩
          · rw [e6]
            have := va_nmO b27 (nm := "[Ljava/lang/Object;") (by decide +kernel)
            exact Option.some.inj (e2.symm.trans this)
          · have := g3
            simp only [Value.int.injEq] at this
            exact this.symm
        · rw [if_neg q3] at ha
          cases ha
  · show (if aS = b then _ else if aS = aS then some (30, []) else _) = _
    rw [if_neg n1, if_pos rfl]
  · show (if aE = b then _ else if aE = aS then _ else if aE = aE then some (29, []) else _) = _
    rw [if_neg n3, if_neg (Ne.symm n2), if_pos rfl]
  · dsimp only at ha
    by_cases q1 : a = b
    · rw [if_pos q1] at ha; cases ha; decide
    · rw [if_neg q1] at ha
      by_cases q2 : a = aS
      · rw [if_pos q2] at ha; cases ha; decide
      · rw [if_neg q2] at ha
        by_cases q3 : a = aE
        · rw [if_pos q3] at ha; cases ha; decide
        · rw [if_neg q3] at ha; cases ha
section Rows
variable {G : Gk} {M : MI} {post : Option Value → Hp → Prop} {h : Hp} {cr sr pc pc2 : Nat} {lv : List (Option Value)} {st : List Value}
/-- the script's length, and what stands in it -/
theorem V_slen {a : Nat} {vs : List Value} (d : DC M.2.1 pc .arraylength 1 pc2) (ha : h a = some (31, vs)) (kk : V G M post h cr sr pc2 lv (.int (nI vs.length) :: st)) : V G M post h cr sr pc lv (.ref a :: st) := by
  intro p l e s m args below meth c A H locs cells slots ls S
  obtain ⟨d1, rfl⟩ := d
  have hK := S.1.2.2.2.2.2.2.2.2.1
  obtain ⟨cell, hcell, o1, -, o3, o4, -⟩ := (S.2.1 a 31 vs ha).old (by omega) (by omega)
  obtain ⟨k, comp, s1, s2⟩ := hK.2.2.2.2
  rw [if_neg (by decide)] at o3
  exact W.alen (ty := .int) (n := nI vs.length) S.1.1 S.1.2.1 hcell ⟨fun q e => (by rw [e] at o1; cases o1), k, by rw [o3]; exact s1, comp, s2⟩ o4 rfl rfl d1 (kk p l e s m args below meth c A H locs cells slots ls S)
theorem V_sld {a : Nat} {vs : List Value} {i : Int32} {v : Value} (j : Nat) (d : DC M.2.1 pc .iaload 1 pc2) (ha : h a = some (31, vs)) (hi : i = nI j) (hj : j < 2147483648) (hv : vs[j]? = some v) (kk : V G M post h cr sr pc2 lv (v :: st)) : V G M post h cr sr pc lv (.int i :: .ref a :: st) := by
  intro p l e s m args below meth c A H locs cells slots ls S
  obtain ⟨d1, rfl⟩ := d
  have hK := S.1.2.2.2.2.2.2.2.2.1
  obtain ⟨cell, hcell, o1, o2, o3, o4, o5⟩ := (S.2.1 a 31 vs ha).old (by omega) (by omega)
  obtain ⟨k, comp, s1, s2⟩ := hK.2.2.2.2
  rw [if_neg (by decide)] at o3
  have hlt : j < cell.slots.size := (Array.getElem?_eq_some_iff.mp (o5 j v hv)).1
  exact W.iald (v := v) S.1.1 S.1.2.1 hcell ⟨fun q e => (by rw [e] at o1; cases o1), k, by rw [o3]; exact s1, comp, s2⟩ o2 (ix_in hi hj hlt) (by subst hi; rw [nI_clamp (by omega)]; exact o5 j v hv) rfl rfl d1 (kk p l e s m args below meth c A H locs cells slots ls S)
end Rows
