/-! making, reference stores, calls -/
section Rows
variable {G : Gk} {M N : MI} {post : Option Value → Hp → Prop} {h : Hp} {cr sr pc pc2 : Nat} {lv : List (Option Value)} {st : List Value}
def NW (own : String) (idx k n : Nat) : Prop := ∃ r : vw_C, vwCl[k]? = some r ∧ r.2.2 = n ∧ Cond.classLink own idx r.1 ∈ lw_tbl ∧ Cond.instantiable r.1 r.2.2 ∈ lw_tbl ∧ Cond.initialized r.1 ∈ lw_tbl
theorem push_S {A : Nat → Prop} {H0 H H1 : Heap} {locs : List Loc} (hS : va_S A H0 H locs) (z : H1.size = H.size + 1) (o : ∀ q : Nat, q < H.size → H1[q]? = H[q]?) : va_S A H0 H1 locs :=
  ⟨Nat.le_trans hS.1 (by omega), fun x h1 h2 => (o x (Nat.lt_of_lt_of_le h1 hS.1)).trans (hS.2.1 x h1 h2), hS.2.2⟩
theorem V_new {k n idx : Nat} (d : DC M.2.1 pc (.new idx) 3 pc2) (nw : NW M.1.cls idx k n) (kk : ∀ q : Nat, h q = none → V G M post (hu h q (k, dfl k)) cr sr pc2 lv (.ref q :: st)) : V G M post h (cr + 1) (sr + n) pc lv st := by
  intro p l e s m args below meth c A H locs cells slots ls S
  obtain ⟨C0, hH, hD, hS, hb, hl0⟩ := S
  obtain ⟨d1, rfl⟩ := d
  obtain ⟨⟨C, T, N⟩, hc, rfl, hcl, hin, hini⟩ := nw
  have hts := C0.2.2.2.2.2.2.2.1
  have hK := C0.2.2.2.2.2.2.2.2.1
  obtain ⟨hlen, ty0, hty, hdf⟩ := cls_df hc
  have hKn := hK.1.1 k _ hc
  refine W.newcK C0.1 C0.2.1 C0.2.2.2.2.2.1 (hts _ (tb_in hcl rfl)) (hts _ (tb_in hin rfl)) (hts _ (tb_in hini rfl)) rfl d1 (by show cells + 1 ≤ M.2.2.2.2.2.1; omega) (by show slots + N ≤ M.2.2.2.2.2.2; have := hb.2; dsimp only at this; omega) hKn.2.1 rfl fun H' kC hkC e1 z1 o1 => ?_
  have hob : t_OB H.size (G.1.1 k) N (G.1.2 k) H' (vp_V (dfl k)) := (u_born ty0 hts (lay_tb hc) hKn hkC e1 hty).to hdf
  refine kk H.size (hH.none (Nat.le_refl _)) p l e s m args below meth c A H' locs (cells + 1) (slots + N) ls ⟨C0, hH.push ?_ o1, hD.put _ (C0.2.2.2.2.2.2.2.2.2 _ hS.1), push_S hS z1 o1, by constructor <;> (have := hb.1; have := hb.2; dsimp only at *; omega), hl0⟩
  unfold cIs
  rw [if_pos (cls_lt hc)]
  exact ⟨_, hc, hob, hlen⟩
theorem V_newI {x : Int32} (n : Nat) (d : DC M.2.1 pc (.newarray .int) 2 pc2) (hx : x = nI n) (hn : n ≤ 100000) (kk : ∀ q : Nat, h q = none → V G M post (hu h q (20, List.replicate n (.int 0))) cr sr pc2 lv (.ref q :: st)) : V G M post h (cr + 1) (sr + n) pc lv (.int x :: st) := by
  intro p l e s m args below meth c A H locs cells slots ls S
  obtain ⟨C0, hH, hD, hS, hb, hl0⟩ := S
  obtain ⟨d1, rfl⟩ := d
  subst hx
  have hts := C0.2.2.2.2.2.2.2.1
  have hK := C0.2.2.2.2.2.2.2.2.1
  refine va_newaK (atype := .int) (N := n) C0.1 C0.2.1 (hts _ (tb_in wo_arrayClass_0 rfl)) rfl d1 rfl (nI_pos (by omega)) (nI_clamp (by omega)) (by show n * 4 ≤ _; omega) (by show cells + 1 ≤ M.2.2.2.2.2.1; omega) (by show slots + n ≤ M.2.2.2.2.2.2; omega) rfl fun H' cA e1 z1 o1 hA hf => ?_
  have hca : cA = G.2.1 20 := Option.some.inj (hf.symm.trans (hK.1.2 0 _ rfl).2)
  subst hca
  refine kk H.size (hH.none (Nat.le_refl _)) p l e s m args below meth c A H' locs (cells + 1) (slots + n) ls ⟨C0, hH.push (cIs.ofArr (by decide) (by decide) ?_) o1, hD.put _ (C0.2.2.2.2.2.2.2.2.2 _ hS.1), push_S hS z1 o1, by constructor <;> omega, hl0⟩
  rw [e1]
  exact congrArg some (aCell_new _ _ _)
theorem V_newZ {x : Int32} (n : Nat) (d : DC M.2.1 pc (.newarray .boolean) 2 pc2) (hx : x = nI n) (hn : n ≤ 100000) (kk : ∀ q : Nat, h q = none → V G M post (hu h q (21, List.replicate n (.int 0))) cr sr pc2 lv (.ref q :: st)) : V G M post h (cr + 1) (sr + n) pc lv (.int x :: st) := by
  intro p l e s m args below meth c A H locs cells slots ls S
  obtain ⟨C0, hH, hD, hS, hb, hl0⟩ := S
  obtain ⟨d1, rfl⟩ := d
  subst hx
  have hts := C0.2.2.2.2.2.2.2.1
  have hK := C0.2.2.2.2.2.2.2.2.1
  refine va_newaK (atype := .boolean) (N := n) C0.1 C0.2.1 (hts _ (tb_in wo_arrayClass_1 rfl)) rfl d1 rfl (nI_pos (by omega)) (nI_clamp (by omega)) (by show n * 1 ≤ _; omega) (by show cells + 1 ≤ M.2.2.2.2.2.1; omega) (by show slots + n ≤ M.2.2.2.2.2.2; omega) rfl fun H' cA e1 z1 o1 hA hf => ?_
  have hca : cA = G.2.1 21 := Option.some.inj (hf.symm.trans (hK.1.2 1 _ rfl).2)
  subst hca
  refine kk H.size (hH.none (Nat.le_refl _)) p l e s m args below meth c A H' locs (cells + 1) (slots + n) ls ⟨C0, hH.push (cIs.ofArr (by decide) (by decide) ?_) o1, hD.put _ (C0.2.2.2.2.2.2.2.2.2 _ hS.1), push_S hS z1 o1, by constructor <;> omega, hl0⟩
  rw [e1]
  exact congrArg some (aCell_new _ _ _)
def AN (own : String) (idx k : Nat) : Prop := ∃ C : String, (22 ≤ k ∧ k < 28) ∧ tyA k = .object C ∧ Cond.classLink own idx C ∈ lw_tbl ∧ Cond.arrayOver (.object C) ∈ lw_tbl
theorem V_anew {x : Int32} {idx k : Nat} (n : Nat) (d : DC M.2.1 pc (.anewarray idx) 3 pc2) (an : AN M.1.cls idx k) (hx : x = nI n) (hn : n ≤ 100000) (kk : ∀ q : Nat, h q = none → V G M post (hu h q (k, List.replicate n .null)) cr sr pc2 lv (.ref q :: st)) : V G M post h (cr + 1) (sr + n) pc lv (.int x :: st) := by
  intro p l e s m args below meth c A H locs cells slots ls S
  obtain ⟨C0, hH, hD, hS, hb, hl0⟩ := S
  obtain ⟨d1, rfl⟩ := d
  obtain ⟨C, ⟨hk1, hk2⟩, hty, hcl, hov⟩ := an
  subst hx
  have hts := C0.2.2.2.2.2.2.2.1
  have hK := C0.2.2.2.2.2.2.2.2.1
  have hcn : (nI n).toNatClampNeg = n := nI_clamp (by omega)
  refine W.anew C0.1 C0.2.1 C0.2.2.2.2.2.1 (hts _ (tb_in hcl rfl)) (va_AO.use (C := C) (hK.2.1 _ (tbX_in hov rfl))) rfl d1 rfl (nI_pos (by omega)) (by rw [hcn]; omega) (by show cells + 1 ≤ M.2.2.2.2.2.1; omega) (by rw [hcn]; show slots + n ≤ M.2.2.2.2.2.2; omega) fun cA kA comp f1 f2 f3 f4 => ?_
  rw [hcn]
  generalize hH1 : H.push ({ cls := cA, slots := Array.replicate n .null, vm := .none } : Cell) = H1
  have z1 : H1.size = H.size + 1 := by rw [← hH1, Array.size_push]
  have e1 : H1[H.size]? = some (arrV cA n (fun _ => .null)) := by rw [← hH1, Array.getElem?_push_size, ← arrV_new]
  have o1 : ∀ q : Nat, q < H.size → H1[q]? = H[q]? := fun q hq => by rw [← hH1, Array.getElem?_push, if_neg (Nat.ne_of_lt hq)]
  have hra := (hK.1.2 _ _ (tys_at G (show 20 ≤ k by omega) (by omega))).2
  dsimp only at hra
  rw [hty] at hra
  have hca : cA = G.2.1 k := by
    obtain ⟨-, -, -, -, -, h4⟩ := hra
    exact Option.some.inj (f1.symm.trans h4)
  subst hca
  refine kk H.size (hH.none (Nat.le_refl _)) p l e s m args below meth c A H1 locs (cells + 1) (slots + n) ls ⟨C0, hH.push (cIs.ofArr (by omega) (by omega) ?_) o1, hD.put _ (C0.2.2.2.2.2.2.2.2.2 _ hS.1), push_S hS z1 o1, by constructor <;> omega, hl0⟩
  rw [e1]
  exact congrArg some (aCell_new _ _ _)
theorem V_anewA {x : Int32} {idx : Nat} (n : Nat) (d : DC M.2.1 pc (.anewarray idx) 3 pc2) (hcl : Cond.classLink M.1.cls idx "[I" ∈ lw_tbl) (hov : Cond.arrayOver (.array .int) ∈ lw_tbl) (hx : x = nI n) (hn : n ≤ 100000) (kk : ∀ q : Nat, h q = none → V G M post (hu h q (28, List.replicate n .null)) cr sr pc2 lv (.ref q :: st)) : V G M post h (cr + 1) (sr + n) pc lv (.int x :: st) := by
  intro p l e s m args below meth c A H locs cells slots ls S
  obtain ⟨C0, hH, hD, hS, hb, hl0⟩ := S
  obtain ⟨d1, rfl⟩ := d
  subst hx
  have hts := C0.2.2.2.2.2.2.2.1
  have hK := C0.2.2.2.2.2.2.2.2.1
  have hcn : (nI n).toNatClampNeg = n := nI_clamp (by omega)
  have hov2 : (Cond.arrayOver (.array .int)).before args s = true := hK.2.1 _ (tbX_in hov rfl)
  refine W.anewA (t := .int) C0.1 C0.2.1 C0.2.2.2.2.2.1 (hts _ (tb_in hcl rfl)) hov2 rfl d1 rfl (nI_pos (by omega)) (by rw [hcn]; omega) (by show cells + 1 ≤ M.2.2.2.2.2.1; omega) (by rw [hcn]; show slots + n ≤ M.2.2.2.2.2.2; omega) fun cA kA comp f1 f2 f3 f4 => ?_
  rw [hcn]
  generalize hH1 : H.push ({ cls := cA, slots := Array.replicate n .null, vm := .none } : Cell) = H1
  have z1 : H1.size = H.size + 1 := by rw [← hH1, Array.size_push]
  have e1 : H1[H.size]? = some (arrV cA n (fun _ => .null)) := by rw [← hH1, Array.getElem?_push_size, ← arrV_new]
  have o1 : ∀ q : Nat, q < H.size → H1[q]? = H[q]? := fun q hq => by rw [← hH1, Array.getElem?_push, if_neg (Nat.ne_of_lt hq)]
  have hca : cA = G.2.1 28 := Option.some.inj (f1.symm.trans (hK.1.2 8 _ rfl).2)
  subst hca
  refine kk H.size (hH.none (Nat.le_refl _)) p l e s m args below meth c A H1 locs (cells + 1) (slots + n) ls ⟨C0, hH.push (cIs.ofArr (by omega) (by omega) ?_) o1, hD.put _ (C0.2.2.2.2.2.2.2.2.2 _ hS.1), push_S hS z1 o1, by constructor <;> omega, hl0⟩
  rw [e1]
  exact congrArg some (aCell_new _ _ _)
/-- which kinds an array of references takes -/
def asg : Nat → Nat → Bool
  | 22, kv => kv == 2
  | 23, kv => kv == 6
  | 24, kv => kv == 8
  | 25, kv => kv == 10
  | 26, kv => kv == 11
  | _, _ => false
theorem V_aast {a k b kv : Nat} {vs ws : List Value} {i : Int32} (j : Nat) (d : DC M.2.1 pc .aastore 1 pc2) (ha : h a = some (k, vs)) (hbv : h b = some (kv, ws)) (has : asg k kv = true) (hi : i = nI j) (hj : j < 2147483648) (hv : j < vs.length) (kk : V G M post (hu h a (k, vs.set j (.ref b))) cr sr pc2 lv st) : V G M post h cr sr pc lv (.ref b :: .int i :: .ref a :: st) := by
  intro p l e s m args below meth c A H locs cells slots ls S
  obtain ⟨C0, hH, hD, hS, hb, hl0⟩ := S
  obtain ⟨d1, rfl⟩ := d
  have hK := C0.2.2.2.2.2.2.2.2.1
  have hk : ∃ r : vw_C, vwCl[kv]? = some r ∧ tyA k = .object r.1 ∧ 22 ≤ k ∧ k < 27 := by
    unfold asg at has
    split at has
    · simp only [beq_iff_eq] at has; subst has; exact ⟨_, rfl, rfl, by decide, by decide⟩
    · simp only [beq_iff_eq] at has; subst has; exact ⟨_, rfl, rfl, by decide, by decide⟩
    · simp only [beq_iff_eq] at has; subst has; exact ⟨_, rfl, rfl, by decide, by decide⟩
    · simp only [beq_iff_eq] at has; subst has; exact ⟨_, rfl, rfl, by decide, by decide⟩
    · simp only [beq_iff_eq] at has; subst has; exact ⟨_, rfl, rfl, by decide, by decide⟩
    · cases has
  obtain ⟨r, hc, hty, hk1, hk2⟩ := hk
  have hAa : A a := hD a k vs ha (by omega)
  obtain ⟨r', hr', ⟨cellV, g1, g2, g3, -⟩, -⟩ := (hH b kv ws hbv).obj (cls_lt hc)
  have hcls := (hK.1.1 kv r hc).2
  have hra := (hK.1.2 _ _ (tys_at G (show 20 ≤ k by omega) (by omega))).2
  dsimp only at hra
  rw [hty] at hra
  obtain ⟨kA, comp, k1, k2, k3, -⟩ := hra
  have hcomp : comp = G.1.1 kv := Option.some.inj (k3.symm.trans hcls.1)
  subst hcomp
  obtain ⟨kC, hkC, -⟩ := hcls.2
  have hcell := (hH a k vs ha).arr (by omega) (by omega)
  rw [if_neg (by omega)] at hcell
  subst hi
  have hcn : (nI j).toNatClampNeg = j := nI_clamp (by omega)
  refine W.aast C0.1 C0.2.1 hcell (fun q h => by cases h) (fun h => by cases h) k1 k2 rfl hkC ⟨nI_pos (by omega), by rw [hcn, aCell_size]; exact hv⟩ g1 (fun q h => by rw [g3] at h; cases h) (by rw [g2]; exact hkC) (by rw [g2]; exact va_assign hcls) rfl rfl d1 fun H' e1 e2 e3 => ?_
  refine kk p l e s m args below meth c A H' _ cells slots ls ⟨C0, hH.put (cIs.ofArr (by omega) (by omega) ?_) e3, hD.put _ hAa, hS.put e2 e3 hAa, hb, hl0⟩
  rw [e1, hcn]
  exact congrArg some (aCell_store _ _ hv)
/-- a row of ints into an array of such -/
theorem V_aastA {a b : Nat} {vs ws : List Value} {i : Int32} (j : Nat) (d : DC M.2.1 pc .aastore 1 pc2) (ha : h a = some (28, vs)) (hbv : h b = some (20, ws)) (hi : i = nI j) (hj : j < 2147483648) (hv : j < vs.length) (hov : Cond.arrayOver (.array .int) ∈ lw_tbl) (kk : V G M post (hu h a (28, vs.set j (.ref b))) cr sr pc2 lv st) : V G M post h cr sr pc lv (.ref b :: .int i :: .ref a :: st) := by
  intro p l e s m args below meth c A H locs cells slots ls S
  obtain ⟨C0, hH, hD, hS, hb, hl0⟩ := S
  obtain ⟨d1, rfl⟩ := d
  have hK := C0.2.2.2.2.2.2.2.2.1
  have hAa : A a := hD a 28 vs ha (by omega)
  have hcellB := (hH b 20 ws hbv).arr (by decide) (by decide)
  have hcell := (hH a 28 vs ha).arr (by decide) (by decide)
  obtain ⟨comp, c1, k1, f1, f2, f3, f4, f5⟩ := arrayOverA_spec (hK.2.1 _ (tbX_in hov rfl))
  have hc1 : c1 = G.2.1 28 := Option.some.inj (f5.symm.trans (hK.1.2 8 _ rfl).2)
  have hcomp : comp = G.2.1 20 := Option.some.inj (f1.symm.trans (hK.1.2 0 _ rfl).2)
  subst hc1 hcomp
  obtain ⟨kI, hkI, -⟩ := Vm.findClass_spec f1
  subst hi
  have hcn : (nI j).toNatClampNeg = j := nI_clamp (by omega)
  refine W.aast C0.1 C0.2.1 hcell (fun q h => by cases h) (fun h => by cases h) f3 f4 rfl hkI ⟨nI_pos (by omega), by rw [hcn, aCell_size]; exact hv⟩ hcellB (fun q h => by cases h) hkI (va_asg _ _) rfl rfl d1 fun H' e1 e2 e3 => ?_
  refine kk p l e s m args below meth c A H' _ cells slots ls ⟨C0, hH.put (cIs.ofArr (by omega) (by omega) ?_) e3, hD.put _ hAa, hS.put e2 e3 hAa, hb, hl0⟩
  rw [e1, hcn]
  exact congrArg some (aCell_store _ _ hv)
/-- the end of a callee's road, as a caller sees it -/
theorem Ct.mono {as : List Value} {p1 p2 : Option Value → Hp → Prop} (hc : Ct G M as h p1) (hp : ∀ v h', p1 v h' → p2 v h') : Ct G M as h p2 := by
  intro l sz
  refine MetFree.mono (hc l sz) (fun _ _ q => q) (fun _ _ _ _ _ _ => trivial) (fun a s o s' _ q => ?_)
  obtain ⟨⟨⟨v, h', e1, e2, e3⟩, e4⟩, e5⟩ := q
  exact ⟨⟨⟨v, h', e1, hp v h' e2, e3⟩, e4⟩, e5⟩
theorem Ct.of {as : List Value} (hp : plainName M.1.cls = true) (hlen : (lg_sl as).length ≤ M.2.2.1) {lv : List (Option Value)} (hlv : ∀ (i : Nat) (v : Value), lv[i]? = some (some v) → (i, v) ∈ lv_args 0 as) (k : V G M post h M.2.2.2.2.2.1 M.2.2.2.2.2.2 0 lv []) : Ct G M as h post := by
  intro l sz
  refine Met.ofW (cc := M.2.1) (maxL := M.2.2.1) (ret := M.2.2.2.1) hp rfl ?_
  intro p e s m args below meth c s₁ B hml hv
  obtain ⟨rfl, hsz, hH, hK⟩ := hv
  subst hsz
  have hts0 := atoms_spec (ws := wsM M) B.pre
  have hle := lv_entry as (n := M.2.2.1) hlen
  rw [lg_entry_eq]
  refine k p l e s m as.toArray below meth c (Af h s.heap.size) s.heap [] 0 0 _ ⟨⟨B.exec, B.bytes, B.returns, hml, B.notSynchronized, findClass_of_methodNamed B.named, (name_of_methodNamed B.named B.method).1, fun w hw => hts0 w (List.mem_cons_of_mem _ hw), hK, fun q hq => Or.inr hq⟩, hH, fun a k vs ha hk => Or.inl ⟨k, vs, ha, hk⟩, va_S.rf, ⟨by omega, by omega⟩, hle.1, hle.2.1, fun i v hi => hle.2.2 (i, v) (hlv i v hi)⟩
theorem wsM_good (md : Cond.code N.1 N.2.1 N.2.2.1 N.2.2.2.1 ∈ lw_tbl) : GoodIn tb (wsM N) := by
  intro w hw
  rcases List.mem_cons.mp hw with e | e
  · subst e
    exact ⟨tb_in md rfl, good_of_word rfl⟩
  · exact ⟨e, tb_good w e⟩
theorem callB {s : State} {args : Array Value} {idx n : Nat} (hts : ∀ w ∈ tb, w.before args s = true) (md : MD N.1 N.2.1 N.2.2.1 N.2.2.2.1 n) (ml : Cond.methodLink M.1.cls idx N.1 ∈ lw_tbl) (hd : N.2.2.2.2.1 + 1 ≤ M.2.2.2.2.1) (hm : N.2.2.1 ≤ 19) :
    CallB (mRoom M) s args M.1.cls idx N.1 N.2.1 N.2.2.1 N.2.2.2.1 (wsM N) (mRoom N) N.2.2.2.2.2.1 N.2.2.2.2.2.2 n := by
  obtain ⟨m1, m2, -, m3, m4, m5⟩ := md
  refine ⟨rfl, rfl, hd, ?_, pay_in hts (wsM_good m1), List.mem_cons_self, hts _ (tb_in m1 rfl), hts _ (tb_in m2 rfl), ⟨m3, m4⟩, fun sig q => ?_, hts _ (tb_in ml rfl)⟩
  · show 8 + (N.2.2.1 + 11) + 38 * N.2.2.2.2.1 ≤ 38 * M.2.2.2.2.1
    omega
  · rw [q] at m5
    exact (Option.some.inj m5).symm
theorem blind {as : List Value} {sz : Nat} : FrameBlind (va_Pc as (fun U => U.heap.size = sz ∧ HR G h U.heap ∧ KK G U)) := by
  intro a U g mk q
  obtain ⟨q0, q1, qH, qK⟩ := q
  exact ⟨q0, q1, qH, KK.same (s := U) (U := U.calling g mk a) rfl qK⟩
/-- behind a call -/
theorem V_back {postN : Option Value → Hp → Prop} {cr' sr' : Nat} (kk : ∀ v h', postN v h' → V G M post h' cr sr pc2 lv (v.toList ++ st))
    {p : Program} {l : Launch} {e : Env} {s : State} {m : MethodId} {args : Array Value} {below : List Frame} {meth : Method} {c : Code} {A : Nat → Prop} {H : Heap} {locs : List Loc} {cells slots : Nat} {ls : Array Slot} {st0 : List Value} {a : Array Value}
    (S : Sit G M h cr' sr' lv p s m args meth c A H locs cells slots ls) (hpc : pc + 3 = pc2) (hc : cr' = cr + N.2.2.2.2.2.1) (hs : sr' = sr + N.2.2.2.2.2.2)
    (hr : va_Run p l e (mRoom M) s m args below meth c H locs cells slots N.2.2.2.2.2.1 N.2.2.2.2.2.2 (F0 m pc ls st0) st (Qp G postN (Af h H.size) a) (Af h H.size)) :
    W p l e (mRoom M) s m args below meth c H locs cells slots (MQ below (Qp G post A) args s M.2.2.2.2.2.1 M.2.2.2.2.2.2 A) (F0 m pc ls st0) := by
  obtain ⟨C0, hH, hD, hS, hb, hl0⟩ := S
  subst hpc
  intro T hT X
  obtain ⟨v, st₀, t, T', L, h0, X', hL, e1, e2, ⟨⟨v', h', hv, hp, hHR, hDm⟩, hz, hk⟩, stp⟩ := hr T hT X
  cases hv
  rw [h0] at hz hk
  have hAf : ∀ q, Af h H.size q → A q := by
    intro q hq
    rcases hq with ⟨k, vs, q1, q2⟩ | hq
    · exact hD q k vs q1 q2
    · exact C0.2.2.2.2.2.2.2.2.2 q (Nat.le_trans hS.1 hq)
  obtain ⟨t2, a1, b1⟩ := kk v h' hp p l e s m args below meth c A T'.heap (locs ++ L) (cells + N.2.2.2.2.2.1) (slots + N.2.2.2.2.2.2) ls
    ⟨C0, by rw [e1]; exact hHR, fun a k vs q1 q2 => hAf a (hDm a k vs q1 q2), ⟨Nat.le_trans hS.1 (by rw [e1]; exact hz), fun q g1 g2 => by
      rw [e1, hk q (Nat.lt_of_lt_of_le g1 hS.1) (fun z => g2 (hAf q z))]; exact hS.2.1 q g1 g2, fun q hq => by
      rcases List.mem_append.mp hq with g | g
      · exact hS.2.2 q g
      · exact hAf _ (hL q g)⟩, by constructor <;> omega, hl0⟩ T' rfl X'
  exact ⟨t2, stp t2 a1, b1⟩
theorem V_callV {postN : Option Value → Hp → Prop} {idx n b k : Nat} {vs As st0 : List Value} {cr' sr' : Nat} (d : DC M.2.1 pc (.invokevirtual idx) 3 pc2) (ml : Cond.methodLink M.1.cls idx N.1 ∈ lw_tbl) (md : MD N.1 N.2.1 N.2.2.1 N.2.2.2.1 n) (wi : wI N.1) (wz : Cond.selects N.1.cls N.1 N.1 ∈ lw_tbl) (ct : Ct G N (.ref b :: As) h postN)
    (hb' : h b = some (k, vs)) (hk : ∃ r : vw_C, vwCl[k]? = some r ∧ r.1 = N.1.cls) (hn : As.length = n) (hst : st0 = As.reverse ++ .ref b :: st) (hd : N.2.2.2.2.1 + 1 ≤ M.2.2.2.2.1) (hm : N.2.2.1 ≤ 19) (hw : (st.map fun v => v.category).sum ≤ 8) (hc : cr' = cr + N.2.2.2.2.2.1) (hs : sr' = sr + N.2.2.2.2.2.2)
    (kk : ∀ v h', postN v h' → V G M post h' cr sr pc2 lv (v.toList ++ st)) : V G M post h cr' sr' pc lv st0 := by
  intro p l e s m args below meth c A H locs cells slots ls S
  obtain ⟨C0, hH, hD, hS, hb, hl0⟩ := S
  obtain ⟨d1, d2⟩ := d
  obtain ⟨r, hr, hrc⟩ := hk
  have hts := C0.2.2.2.2.2.2.2.1
  have hK := C0.2.2.2.2.2.2.2.2.1
  have hrecv : ∃ cellB : Cell, H[b]? = some cellB ∧ cellB.vm.isStatics = false ∧ s.vm.findClass N.1.cls = some cellB.cls := by
    obtain ⟨r', h1, ⟨cell, q1, q2, q3, -⟩, -⟩ := (hH b k vs hb').obj (cls_lt hr)
    exact ⟨cell, q1, by rw [q3]; rfl, by rw [q2, ← hrc]; exact (hK.1.1 k r hr).2.1⟩
  refine V_back kk ⟨C0, hH, hD, hS, hb, hl0⟩ d2 hc hs (va_runV (C := N.1.cls) (As := As) (b := b) ⟨C0.1, C0.2.1, C0.2.2.2.1, C0.2.2.2.2.2.1, hts⟩ (ct l H.size) ⟨callB (M := M) hts md ml hd hm, hts _ (tb_in wi rfl), hts _ (tb_in wz rfl)⟩ ⟨blind, hrecv, fun U hU hW => ⟨rfl, by rw [hU], by rw [hU]; exact hH, hK.warm hW⟩⟩ rfl hn hl0.1 hst (by show 2 * 0 + _ ≤ 8; omega) d1 ⟨by show cells + _ ≤ M.2.2.2.2.2.1; omega, by show slots + _ ≤ M.2.2.2.2.2.2; omega⟩)
theorem V_callS {postN : Option Value → Hp → Prop} {idx n : Nat} {As st0 : List Value} {cr' sr' : Nat} (d : DC M.2.1 pc (.invokestatic idx) 3 pc2) (ml : Cond.methodLink M.1.cls idx N.1 ∈ lw_tbl) (md : MD N.1 N.2.1 N.2.2.1 N.2.2.2.1 n) (ws : Cond.static N.1 ∈ lw_tbl) (ct : Ct G N As h postN)
    (hn : As.length = n) (hst : st0 = As.reverse ++ st) (hd : N.2.2.2.2.1 + 1 ≤ M.2.2.2.2.1) (hm : N.2.2.1 ≤ 19) (hw : (st.map fun v => v.category).sum ≤ 8) (hc : cr' = cr + N.2.2.2.2.2.1) (hs : sr' = sr + N.2.2.2.2.2.2)
    (kk : ∀ v h', postN v h' → V G M post h' cr sr pc2 lv (v.toList ++ st)) : V G M post h cr' sr' pc lv st0 := by
  intro p l e s m args below meth c A H locs cells slots ls S
  obtain ⟨C0, hH, hD, hS, hb, hl0⟩ := S
  obtain ⟨d1, d2⟩ := d
  have hts := C0.2.2.2.2.2.2.2.1
  have hK := C0.2.2.2.2.2.2.2.2.1
  refine V_back kk ⟨C0, hH, hD, hS, hb, hl0⟩ d2 hc hs (va_runS (As := As) ⟨C0.1, C0.2.1, C0.2.2.2.1, C0.2.2.2.2.2.1, hts⟩ (ct l H.size) ⟨callB (M := M) hts md ml hd hm, hts _ (tb_in ws rfl)⟩ ⟨blind, fun U hU hW => ⟨rfl, by rw [hU], by rw [hU]; exact hH, hK.warm hW⟩⟩ rfl hn hl0.1 hst (by show 2 * 0 + _ ≤ 8; omega) d1 ⟨by show cells + _ ≤ M.2.2.2.2.2.1; omega, by show slots + _ ≤ M.2.2.2.2.2.2; omega⟩)
theorem V_callI {postN : Option Value → Hp → Prop} {idx n b : Nat} {As st0 : List Value} {cr' sr' : Nat} (d : DC M.2.1 pc (.invokespecial idx) 3 pc2) (ml : Cond.methodLink M.1.cls idx N.1 ∈ lw_tbl) (md : MD N.1 N.2.1 N.2.2.1 N.2.2.2.1 n) (wi : wI N.1) (hret : N.2.2.2.1 = none) (hini : N.1.name = "<init>") (ct : Ct G N (.ref b :: As) h postN)
    (hn : As.length = n) (hst : st0 = As.reverse ++ .ref b :: st) (hd : N.2.2.2.2.1 + 1 ≤ M.2.2.2.2.1) (hm : N.2.2.1 ≤ 19) (hw : (st.map fun v => v.category).sum ≤ 8) (hc : cr' = cr + N.2.2.2.2.2.1) (hs : sr' = sr + N.2.2.2.2.2.2)
    (kk : ∀ v h', postN v h' → V G M post h' cr sr pc2 lv (v.toList ++ st)) : V G M post h cr' sr' pc lv st0 := by
  intro p l e s m args below meth c A H locs cells slots ls S
  obtain ⟨C0, hH, hD, hS, hb, hl0⟩ := S
  obtain ⟨d1, d2⟩ := d
  have hts := C0.2.2.2.2.2.2.2.1
  have hK := C0.2.2.2.2.2.2.2.2.1
  have hcb := callB (M := M) hts md ml hd hm
  rw [hret] at hcb
  refine V_back kk ⟨C0, hH, hD, hS, hb, hl0⟩ d2 hc hs (va_runI (As := As) (b := b) ⟨C0.1, C0.2.1, C0.2.2.2.1, C0.2.2.2.2.2.1, hts⟩ (ct l H.size) ⟨hcb, hini, hts _ (tb_in wi rfl)⟩ ⟨blind, fun U hU hW => ⟨rfl, by rw [hU], by rw [hU]; exact hH, hK.warm hW⟩⟩ rfl hn hl0.1 hst (by show 2 * 0 + _ ≤ 8; omega) d1 ⟨by show cells + _ ≤ M.2.2.2.2.2.1; omega, by show slots + _ ≤ M.2.2.2.2.2.2; omega⟩)
/-- a private constructor of a nest mate -/
theorem V_callN {postN : Option Value → Hp → Prop} {idx n b : Nat} {host : String} {As st0 : List Value} {cr' sr' : Nat} (d : DC M.2.1 pc (.invokespecial idx) 3 pc2) (ml : Cond.methodLinkNest M.1.cls idx N.1 host ∈ lw_tbl) (md : MD N.1 N.2.1 N.2.2.1 N.2.2.2.1 n) (wi : wI N.1) (hret : N.2.2.2.1 = none) (hini : N.1.name = "<init>") (ct : Ct G N (.ref b :: As) h postN)
    (hn : As.length = n) (hst : st0 = As.reverse ++ .ref b :: st) (hd : N.2.2.2.2.1 + 1 ≤ M.2.2.2.2.1) (hm : N.2.2.1 ≤ 19) (hw : (st.map fun v => v.category).sum ≤ 8) (hc : cr' = cr + N.2.2.2.2.2.1) (hs : sr' = sr + N.2.2.2.2.2.2)
    (kk : ∀ v h', postN v h' → V G M post h' cr sr pc2 lv (v.toList ++ st)) : V G M post h cr' sr' pc lv st0 := by
  intro p l e s m args below meth c A H locs cells slots ls S
  obtain ⟨C0, hH, hD, hS, hb, hl0⟩ := S
  obtain ⟨d1, d2⟩ := d
  obtain ⟨m1, m2, -, m3⟩ := md
  have hts := C0.2.2.2.2.2.2.2.1
  have hK := C0.2.2.2.2.2.2.2.2.1
  have hcb := va_cnB (R := mRoom M) (host := host) (own := M.1.cls) (index := idx) (rm := mRoom N) (mc := N.2.2.2.2.2.1) (ms := N.2.2.2.2.2.2) (maxL := N.2.2.1) n hts (wsM_good m1) rfl rfl rfl (hK.2.1 _ (tbX_in ml rfl)) (hts _ (tb_in m2 rfl)) m3 ⟨hd, by show 8 + (N.2.2.1 + 11) + 38 * N.2.2.2.2.1 ≤ 38 * M.2.2.2.2.1; omega⟩
  rw [hret] at hcb
  refine V_back kk ⟨C0, hH, hD, hS, hb, hl0⟩ d2 hc hs (va_runIN (As := As) (b := b) ⟨C0.1, C0.2.1, C0.2.2.2.1, C0.2.2.2.2.2.1, hts⟩ (ct l H.size) ⟨hcb, hini, hts _ (tb_in wi rfl)⟩ ⟨blind, fun U hU hW => ⟨rfl, by rw [hU], by rw [hU]; exact hH, hK.warm hW⟩⟩ rfl hn hl0.1 hst (by show 2 * 0 + _ ≤ 8; omega) d1 ⟨by show cells + _ ≤ M.2.2.2.2.2.1; omega, by show slots + _ ≤ M.2.2.2.2.2.2; omega⟩)
theorem V_objinit {idx a : Nat} (d : DC M.2.1 pc (.invokespecial idx) 3 pc2) (ml : Cond.methodLink M.1.cls idx objectInit ∈ lw_tbl) (hd : 1 ≤ M.2.2.2.2.1) (hw : (st.map fun v => v.category).sum ≤ 8) (k : V G M post h cr sr pc2 lv st) : V G M post h cr sr pc lv (.ref a :: st) := by
  intro p l e s m args below meth c A H locs cells slots ls S
  have S0 := S
  obtain ⟨C0, hH, hD, hS, hb, hl0⟩ := S
  obtain ⟨d1, rfl⟩ := d
  have hts := C0.2.2.2.2.2.2.2.1
  refine W.objInit C0.1 C0.2.1 C0.2.2.2.2.2.1 (hts _ (tb_in ml rfl)) (hts _ (tb_in wi_objinit rfl)) (hts _ (tb_in wc_objinit rfl)) rfl (by rw [C0.2.2.2.1]; exact hl0.1) rfl d1 (by show 1 ≤ M.2.2.2.2.1; exact hd) (by show 2 * 0 + _ + 12 ≤ 38 * M.2.2.2.2.1; omega) ?_
  exact k p l e s m args below meth c A H locs cells slots ls S0
/-- answers by kind -/
def pI (q : Int32 → Hp → Prop) : Option Value → Hp → Prop := fun v h' => ∃ r, v = some (.int r) ∧ q r h'
def pL (q : Int64 → Hp → Prop) : Option Value → Hp → Prop := fun v h' => ∃ r, v = some (.long r) ∧ q r h'
def pR (q : Nat → Hp → Prop) : Option Value → Hp → Prop := fun v h' => ∃ r, v = some (.ref r) ∧ q r h'
def pQ (q : Option Nat → Hp → Prop) : Option Value → Hp → Prop := fun v h' => ∃ r, v = some (va_rf r) ∧ q r h'
def pN (q : Hp → Prop) : Option Value → Hp → Prop := fun v h' => v = none ∧ q h'
theorem kI {q : Int32 → Hp → Prop} (f : ∀ r h', q r h' → V G M post h' cr sr pc lv (.int r :: st)) : ∀ v h', pI q v h' → V G M post h' cr sr pc lv (v.toList ++ st) := by
  rintro v h' ⟨r, rfl, hq⟩
  exact f r h' hq
theorem kL {q : Int64 → Hp → Prop} (f : ∀ r h', q r h' → V G M post h' cr sr pc lv (.long r :: st)) : ∀ v h', pL q v h' → V G M post h' cr sr pc lv (v.toList ++ st) := by
  rintro v h' ⟨r, rfl, hq⟩
  exact f r h' hq
theorem kR {q : Nat → Hp → Prop} (f : ∀ r h', q r h' → V G M post h' cr sr pc lv (.ref r :: st)) : ∀ v h', pR q v h' → V G M post h' cr sr pc lv (v.toList ++ st) := by
  rintro v h' ⟨r, rfl, hq⟩
  exact f r h' hq
theorem kQ {q : Option Nat → Hp → Prop} (f : ∀ r h', q r h' → V G M post h' cr sr pc lv (va_rf r :: st)) : ∀ v h', pQ q v h' → V G M post h' cr sr pc lv (v.toList ++ st) := by
  rintro v h' ⟨r, rfl, hq⟩
  exact f r h' hq
theorem kN {q : Hp → Prop} (f : ∀ h', q h' → V G M post h' cr sr pc lv st) : ∀ v h', pN q v h' → V G M post h' cr sr pc lv (v.toList ++ st) := by
  rintro v h' ⟨rfl, hq⟩
  exact f h' hq
end Rows
