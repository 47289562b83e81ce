/-! THE LAYER: an abstract heap by addresses, a judgement V of a method's body over it, contracts Ct; a row an instruction -/
abbrev Hp : Type := Nat → Option (Nat × List Value)
/-- numbers of the classes and slots; the array classes; the empty array; the cell of statics, the slot; the mirror -/
abbrev Gk : Type := va_G × (Nat → ClassId) × Nat × Nat × Nat × Nat
/-- a method: name, code, locals, answer, depth, cells, slots -/
abbrev MI : Type := MethodName × ByteArray × Nat × Option FieldType × Nat × Nat × Nat
def mRoom (M : MI) : Room := { frames := M.2.2.2.2.1, cells := M.2.2.2.2.2.1, slots := M.2.2.2.2.2.2, locals := 38 * M.2.2.2.2.1 }
def tysG (G : Gk) : List (ClassId × FieldType) := [(G.2.1 20, .int), (G.2.1 21, .boolean), (G.2.1 22, .object "FieldEditor$Field"), (G.2.1 23, .object "FieldEditor$Path"), (G.2.1 24, .object "FieldEditor$Shape"), (G.2.1 25, .object "FieldEditor$Thing"), (G.2.1 26, .object "FieldEditor$Watch"), (G.2.1 27, .object "java/lang/Object"), (G.2.1 28, .array .int)]
def isX : Cond → Bool
  | .arrayOver (.object _) => true
  | .arrayOver (.array .int) => true
  | .methodLinkNest .. => true
  | .castable .. => true
  | .declares _ => true
  | _ => false
def tbX : List Cond := lw_tbl.filter isX
theorem tbX_in {w : Cond} (h : w ∈ lw_tbl) (hg : isX w = true) : w ∈ tbX := List.mem_filter.mpr ⟨h, hg⟩
def ZK (G : Gk) (U : State) : Prop := ∃ (cf : ClassId) (kf : Class) (fi : Nat) (f : Field), U.fieldFound? "java/util/ArrayList" "DEFAULTCAPACITY_EMPTY_ELEMENTDATA" "[Ljava/lang/Object;" = some (cf, kf, fi, f) ∧ f.isStatic = true ∧ kf.init = .initialized ∧ kf.statics = some G.2.2.2.1 ∧ f.slot = G.2.2.2.2.1
/-- the class of the script -/
def SK (G : Gk) (U : State) : Prop := ∃ (k : Class) (comp : ClassId), U.vm.classes[G.2.1 31]? = some k ∧ k.kind = .array comp .int
theorem SK.moved {G : Gk} {u U : State} (hvm : u.vm.Alike U.vm) (h : SK G u) : SK G U := by
  obtain ⟨k, comp, h1, h2⟩ := h
  obtain ⟨k', hk', he⟩ := hvm.2.2 _ _ h1
  exact ⟨k', comp, hk', by rw [he]; exact h2⟩
def KK (G : Gk) (U : State) : Prop := va_K G.1 vwCl (tysG G) U ∧ (∀ w ∈ tbX, va_Nw w U) ∧ va_Mi "[Ljava/lang/Object;" G.2.2.2.2.2 U ∧ ZK G U ∧ SK G U
theorem ao_moved {t : FieldType} {u U : State} (hvm : u.vm.Alike U.vm) (h : va_Nw (.arrayOver (.array t)) u) : va_Nw (.arrayOver (.array t)) U := by
  obtain ⟨comp, c, k, h1, h2, h3, h4, h5⟩ := arrayOverA_spec h
  obtain ⟨k', hk', he⟩ := hvm.2.2 _ _ h3
  have hi : (U.vm.classes.findIdx? fun (x : Class) => match x.kind with | .array component _ => component == comp | _ => false) = some c := by
    have e1 := va_idx_bare U.vm comp
    have e2 := va_idx_bare u.vm comp
    rw [hvm.bare_eq] at e1
    exact e1.symm.trans (e2.trans h2)
  have hkind : k'.kind = .array comp (.array t) := by rw [he]; exact h4
  have f1 : U.vm.findClass (FieldType.array t).toString = some comp := by rw [hvm.findClass]; exact h1
  have f2 : U.vm.findClass ("[" ++ (FieldType.array t).toString) = some c := by rw [hvm.findClass]; exact h5
  unfold va_Nw Cond.before Cond.holds
  simp only [Cond.value]
  rw [f1, Option.bind_some]
  refine (congrArg (fun o : Option Nat => (o.bind (fun c => (U.vm.classes[c]?).map fun (k : Class) => match k.kind with | .array _ ty => decide (ty = FieldType.array t) && decide (U.vm.findClass ("[" ++ (FieldType.array t).toString) = some c) | _ => false) == some true)) hi).trans ?_
  simp [hk', hkind, f2]
theorem nw_warm {w : Cond} (hx : isX w = true) {s U : State} (hW : s.WarmedH U.vm) (h : va_Nw w s) : va_Nw w U := by
  cases w with
  | arrayOver t =>
    cases t with
    | object C => exact va_AO.moved hW.alike h
    | array t => exact ao_moved hW.alike h
    | _ => simp [isX] at hx
  | methodLinkNest a b c d => exact va_Nw.warmM hW h
  | castable a b => exact va_Nw.warmC hW h
  | declares a => exact va_Nw.warmD hW h
  | _ => simp [isX] at hx
theorem ZK.moved {G : Gk} {u U : State} (hvm : u.vm.Alike U.vm) (h : ZK G u) : ZK G U := by
  obtain ⟨cf, kf, fi, f, h1, h2, h3, h4, h5⟩ := h
  obtain ⟨k', hi', he⟩ := State.fieldFound?_setVm hvm h1
  exact ⟨cf, k', fi, f, hi', h2, by rw [he]; exact h3, by rw [he]; exact h4, h5⟩
theorem KK.warm {G : Gk} {s U : State} (hW : s.WarmedH U.vm) (h : KK G s) : KK G U :=
  ⟨h.1.moved hW.alike, fun w hw => nw_warm (List.mem_filter.mp hw).2 hW (h.2.1 w hw), h.2.2.1.moved hW.alike, h.2.2.2.1.moved hW.alike, h.2.2.2.2.moved hW.alike⟩
theorem KK.same {G : Gk} {s U : State} (hv : s.vm = U.vm) (h : KK G s) : KK G U := by
  refine ⟨h.1.moved (by rw [hv]; exact Vm.Alike.refl _), fun w hw => ?_, h.2.2.1.moved (by rw [hv]; exact Vm.Alike.refl _), h.2.2.2.1.moved (by rw [hv]; exact Vm.Alike.refl _), h.2.2.2.2.moved (by rw [hv]; exact Vm.Alike.refl _)⟩
  have h1 := h.2.1 w hw
  have hx := (List.mem_filter.mp hw).2
  have hal : s.vm.Alike U.vm := by rw [hv]; exact Vm.Alike.refl _
  cases w with
  | arrayOver t =>
    cases t with
    | object C => exact va_AO.moved hal h1
    | array t => exact ao_moved hal h1
    | _ => simp [isX] at hx
  | methodLinkNest a b c d => exact va_Nw.same rfl hv h1
  | castable a b => exact va_Nw.same rfl hv h1
  | declares a => exact va_Nw.same rfl hv h1
  | _ => simp [isX] at hx
/-- an array's cell -/
def aCell (c : ClassId) (vs : List Value) : Cell := arrV c vs.length (fun j => vs.getD j .null)
/-- an array that was there before, and that nobody writes -/
def oCell (c : ClassId) (vs : List Value) (cell : Cell) : Prop := cell.vm.isStatics = false ∧ cell.vm ≠ .unknown ∧ cell.cls = c ∧ cell.slots.size.toInt32 = nI vs.length ∧ ∀ (j : Nat) (v : Value), vs[j]? = some v → cell.slots[j]? = some v
/-- what a cell of the abstract heap is: kinds 0 .. 13 objects, 20 .. 28 arrays, 29 the empty array that nobody writes, 30 the statics of ArrayList, 31 the script -/
def cIs (G : Gk) (a k : Nat) (vs : List Value) (H : Heap) : Prop :=
  if k < 14 then ∃ r, vwCl[k]? = some r ∧ t_OB a (G.1.1 k) r.2.2 (G.1.2 k) H (vp_V vs) ∧ vs.length = r.2.2
  else if k = 30 then ∃ cell : Cell, H[a]? = some cell ∧ cell.vm.isStatics = true ∧ cell.slots[G.2.2.2.2.1]? = some (.ref G.2.2.1)
  else if k < 29 then H[a]? = some (aCell (G.2.1 (if k = 29 then 27 else k)) vs)
  else ∃ cell : Cell, H[a]? = some cell ∧ oCell (G.2.1 (if k = 29 then 27 else k)) vs cell
def HR (G : Gk) (h : Hp) (H : Heap) : Prop := ∀ a k vs, h a = some (k, vs) → cIs G a k vs H
def hu (h : Hp) (a : Nat) (c : Nat × List Value) : Hp := fun b => if b = a then some c else h b
theorem hu_self (h : Hp) (a : Nat) (c : Nat × List Value) : hu h a c a = some c := if_pos rfl
theorem hu_ne (h : Hp) {a b : Nat} (c : Nat × List Value) (e : b ≠ a) : hu h a c b = h b := if_neg e
theorem cIs.kept {G : Gk} {a k : Nat} {vs : List Value} {H H1 : Heap} (h : cIs G a k vs H) (hq : H1[a]? = H[a]?) : cIs G a k vs H1 := by
  unfold cIs at h ⊢
  split
  · rename_i hk
    rw [if_pos hk] at h
    obtain ⟨r, h1, h2, h3⟩ := h
    exact ⟨r, h1, h2.kept hq, h3⟩
  · rename_i hk
    rw [if_neg hk] at h
    split
    · rename_i hk
      rw [if_pos hk] at h
      obtain ⟨cell, h1, h2⟩ := h
      exact ⟨cell, by rw [hq]; exact h1, h2⟩
    · rename_i hk
      rw [if_neg hk] at h
      split
      · rename_i hk
        rw [if_pos hk] at h
        rw [hq]
        exact h
      · rename_i hk
        rw [if_neg hk] at h
        rw [hq]
        exact h
theorem cIs.lt {G : Gk} {a k : Nat} {vs : List Value} {H : Heap} (h : cIs G a k vs H) : a < H.size := by
  unfold cIs at h
  split at h
  · obtain ⟨r, h1, ⟨cell, h2, -⟩, h3⟩ := h
    exact (Array.getElem?_eq_some_iff.mp h2).1
  · split at h
    · obtain ⟨cell, h1, h2⟩ := h
      exact (Array.getElem?_eq_some_iff.mp h1).1
    · split at h
      · exact (Array.getElem?_eq_some_iff.mp h).1
      · obtain ⟨cell, h1, h2⟩ := h
        exact (Array.getElem?_eq_some_iff.mp h1).1
theorem cIs.obj {G : Gk} {a k : Nat} {vs : List Value} {H : Heap} (h : cIs G a k vs H) (hk : k < 14) : ∃ r, vwCl[k]? = some r ∧ t_OB a (G.1.1 k) r.2.2 (G.1.2 k) H (vp_V vs) ∧ vs.length = r.2.2 := by
  unfold cIs at h
  rw [if_pos hk] at h
  exact h
theorem cIs.arr {G : Gk} {a k : Nat} {vs : List Value} {H : Heap} (h : cIs G a k vs H) (hk : ¬ k < 14) (h30 : k < 29) : H[a]? = some (aCell (G.2.1 (if k = 29 then 27 else k)) vs) := by
  unfold cIs at h
  rw [if_neg hk, if_neg (by omega), if_pos h30] at h
  exact h
theorem cIs.old {G : Gk} {a k : Nat} {vs : List Value} {H : Heap} (h : cIs G a k vs H) (hk : 29 ≤ k) (h30 : k ≠ 30) : ∃ cell : Cell, H[a]? = some cell ∧ oCell (G.2.1 (if k = 29 then 27 else k)) vs cell := by
  unfold cIs at h
  rw [if_neg (by omega), if_neg h30, if_neg (by omega)] at h
  exact h
theorem cIs.ofArr {G : Gk} {a k : Nat} {vs : List Value} {H : Heap} (hk : ¬ k < 14) (h30 : k < 29) (h : H[a]? = some (aCell (G.2.1 k) vs)) : cIs G a k vs H := by
  unfold cIs
  rw [if_neg hk, if_neg (by omega), if_pos h30, if_neg (by omega)]
  exact h
theorem HR.put {G : Gk} {h : Hp} {H H1 : Heap} {a k : Nat} {vs : List Value} (hH : HR G h H) (hc : cIs G a k vs H1) (ho : ∀ q : Nat, q ≠ a → H1[q]? = H[q]?) : HR G (hu h a (k, vs)) H1 := by
  intro b k2 vs2 hb
  by_cases e : b = a
  · subst e
    rw [hu_self] at hb
    cases hb
    exact hc
  · rw [hu_ne _ _ e] at hb
    exact (hH b k2 vs2 hb).kept (ho b e)
theorem HR.none {G : Gk} {h : Hp} {H : Heap} {q : Nat} (hH : HR G h H) (hq : H.size ≤ q) : h q = none := by
  cases e : h q with
  | none => rfl
  | some c =>
    obtain ⟨k, vs⟩ := c
    exact absurd (hH q k vs e).lt (by omega)
theorem HR.push {G : Gk} {h : Hp} {H H1 : Heap} {k : Nat} {vs : List Value} (hH : HR G h H) (hc : cIs G H.size k vs H1) (ho : ∀ q : Nat, q < H.size → H1[q]? = H[q]?) : HR G (hu h H.size (k, vs)) H1 := by
  intro b k2 vs2 hb
  by_cases e : b = H.size
  · subst e
    rw [hu_self] at hb
    cases hb
    exact hc
  · rw [hu_ne _ _ e] at hb
    exact (hH b k2 vs2 hb).kept (ho b (hH b k2 vs2 hb).lt)
def Dm (A : Nat → Prop) (h : Hp) : Prop := ∀ a k vs, h a = some (k, vs) → k < 29 → A a
theorem Dm.put {A : Nat → Prop} {h : Hp} (hD : Dm A h) {a : Nat} (c : Nat × List Value) (ha : A a) : Dm A (hu h a c) := by
  intro b k vs hb hk
  by_cases e : b = a
  · subst e; exact ha
  · rw [hu_ne _ _ e] at hb
    exact hD b k vs hb hk
def Lv (ls : Array Slot) (n : Nat) (lv : List (Option Value)) : Prop := ls.size = n ∧ lv_wf ls ∧ ∀ (i : Nat) (v : Value), lv[i]? = some (some v) → ls[i]? = some (Slot.val v)
def Cx (G : Gk) (M : MI) (p : Program) (s : State) (m : MethodId) (args : Array Value) (meth : Method) (c : Code) (A : Nat → Prop) : Prop :=
  p.tables.exec = Jvm.exec ∧ c.code = M.2.1 ∧ meth.sig.returnType = M.2.2.2.1 ∧ c.maxLocals = M.2.2.1 ∧ meth.locks = false ∧ s.vm.findClass M.1.cls = some m.cls ∧ meth.name = M.1.name ∧ (∀ w ∈ tb, w.before args s = true) ∧ KK G s ∧ (∀ q, s.heap.size ≤ q → A q)
def Qp (G : Gk) (post : Option Value → Hp → Prop) (A : Nat → Prop) : Array Value → State → Outcome → State → Prop := fun _ st o t => (∃ v h', o = .returned v ∧ post v h' ∧ HR G h' t.heap ∧ Dm A h') ∧ va_F A st t
def Sit (G : Gk) (M : MI) (h : Hp) (cr sr : Nat) (lv : List (Option Value)) (p : Program) (s : State) (m : MethodId) (args : Array Value) (meth : Method) (c : Code) (A : Nat → Prop) (H : Heap) (locs : List Loc) (cells slots : Nat) (ls : Array Slot) : Prop :=
  Cx G M p s m args meth c A ∧ HR G h H ∧ Dm A h ∧ va_S A s.heap H locs ∧ (cells + cr ≤ M.2.2.2.2.2.1 ∧ slots + sr ≤ M.2.2.2.2.2.2) ∧ Lv ls M.2.2.1 lv
/-- THE JUDGEMENT: from pc, with these locals and this stack over the heap h, the method comes to its end with 'post' -/
def V (G : Gk) (M : MI) (post : Option Value → Hp → Prop) (h : Hp) (cr sr pc : Nat) (lv : List (Option Value)) (st : List Value) : Prop :=
  ∀ (p : Program) (l : Launch) (e : Env) (s : State) (m : MethodId) (args : Array Value) (below : List Frame) (meth : Method) (c : Code) (A : Nat → Prop) (H : Heap) (locs : List Loc) (cells slots : Nat) (ls : Array Slot),
    Sit G M h cr sr lv p s m args meth c A H locs cells slots ls → W p l e (mRoom M) s m args below meth c H locs cells slots (MQ below (Qp G post A) args s M.2.2.2.2.2.1 M.2.2.2.2.2.2 A) (F0 m pc ls st)
/-- a contract: at these arguments over the heap h -/
def Af (h : Hp) (sz : Nat) (q : Nat) : Prop := (∃ k vs, h q = some (k, vs) ∧ k < 29) ∨ sz ≤ q
def wsM (M : MI) : List Cond := Cond.code M.1 M.2.1 M.2.2.1 M.2.2.2.1 :: tb
def Ct (G : Gk) (M : MI) (as : List Value) (h : Hp) (post : Option Value → Hp → Prop) : Prop :=
  ∀ (l : Launch) (sz : Nat), Met l M.1 (wsM M) (mRoom M) (va_Pc as (fun U => U.heap.size = sz ∧ HR G h U.heap ∧ KK G U)) (Qp G post (Af h sz)) M.2.2.2.2.2.1 M.2.2.2.2.2.2 (Af h sz)
section Rows
variable {G : Gk} {M : MI} {post : Option Value → Hp → Prop} {h : Hp} {cr sr pc pc2 : Nat} {lv : List (Option Value)} {st : List Value}
theorem Vpure {lv2 : List (Option Value)} {st2 : List Value} (f : ∀ {p : Program} {l : Launch} {e : Env} {R : Room} {s : State} {m : MethodId} {args : Array Value} {below : List Frame} {meth : Method} {c : Code} {H : Heap} {locs : List Loc} {cells slots : Nat} {Q : State → Prop} {ls : Array Slot}, p.tables.exec = Jvm.exec → c.code = M.2.1 → Lv ls M.2.2.1 lv → s.vm.findClass M.1.cls = some m.cls → (∀ w ∈ tb, w.before args s = true) →
      (∀ ls2 : Array Slot, Lv ls2 M.2.2.1 lv2 → W p l e R s m args below meth c H locs cells slots Q (F0 m pc2 ls2 st2)) → W p l e R s m args below meth c H locs cells slots Q (F0 m pc ls st)) (k : V G M post h cr sr pc2 lv2 st2) : V G M post h cr sr pc lv st := by
  intro p l e s m args below meth c A H locs cells slots ls S
  obtain ⟨C, hH, hD, hS, hb, hl⟩ := S
  exact f C.1 C.2.1 hl C.2.2.2.2.2.1 C.2.2.2.2.2.2.2.1 (fun ls2 hl2 => k p l e s m args below meth c A H locs cells slots ls2 ⟨C, hH, hD, hS, hb, hl2⟩)
theorem V_iconst {n : Int} {v : Int32} (d : DC M.2.1 pc (.iconst n) 1 pc2) (hv : Int32.ofInt n = v) (k : V G M post h cr sr pc2 lv (.int v :: st)) : V G M post h cr sr pc lv st := by
  obtain ⟨d1, rfl⟩ := d
  exact Vpure (fun hx hb hl _ _ w => lv_iconst hx hb d1 hv (w _ hl)) k
theorem V_bipush {n : Int} {v : Int32} (d : DC M.2.1 pc (.bipush n) 2 pc2) (hv : (Int8.ofInt n).toInt32 = v) (k : V G M post h cr sr pc2 lv (.int v :: st)) : V G M post h cr sr pc lv st := by
  obtain ⟨d1, rfl⟩ := d
  exact Vpure (fun hx hb hl _ _ w => lv_bipush hx hb d1 hv (w _ hl)) k
theorem V_sipush {n : Int} {v : Int32} (d : DC M.2.1 pc (.sipush n) 3 pc2) (hv : (Int16.ofInt n).toInt32 = v) (k : V G M post h cr sr pc2 lv (.int v :: st)) : V G M post h cr sr pc lv st := by
  obtain ⟨d1, rfl⟩ := d
  exact Vpure (fun hx hb hl _ _ w => lv_sipush hx hb d1 hv (w _ hl)) k
theorem V_ldc {idx : Nat} {v : Int32} (d : DC M.2.1 pc (.ldc idx) 2 pc2) (hc : Cond.constant M.1.cls idx v ∈ lw_tbl) (k : V G M post h cr sr pc2 lv (.int v :: st)) : V G M post h cr sr pc lv st := by
  obtain ⟨d1, rfl⟩ := d
  exact Vpure (fun hx hb hl ho ht w => lv_ldc hx hb ho (ht _ (tb_in hc rfl)) d1 (w _ hl)) k
theorem V_iload_n {n : Fin 4} {i : Nat} {x : Int32} (d : DC M.2.1 pc (.iload_n n) 1 pc2) (hi : (n : Nat) = i) (hv : lv[i]? = some (some (.int x))) (k : V G M post h cr sr pc2 lv (.int x :: st)) : V G M post h cr sr pc lv st := by
  obtain ⟨d1, rfl⟩ := d
  exact Vpure (fun hx hb hl _ _ w => lv_iload_n hx hb d1 hi (hl.2.2 _ _ hv) (w _ hl)) k
theorem V_iload {i : Nat} {x : Int32} (d : DC M.2.1 pc (.iload i) 2 pc2) (hv : lv[i]? = some (some (.int x))) (k : V G M post h cr sr pc2 lv (.int x :: st)) : V G M post h cr sr pc lv st := by
  obtain ⟨d1, rfl⟩ := d
  exact Vpure (fun hx hb hl _ _ w => lv_iload hx hb d1 (hl.2.2 _ _ hv) (w _ hl)) k
theorem V_aload_n {n : Fin 4} {i : Nat} {x : Nat} (d : DC M.2.1 pc (.aload_n n) 1 pc2) (hi : (n : Nat) = i) (hv : lv[i]? = some (some (.ref x))) (k : V G M post h cr sr pc2 lv (.ref x :: st)) : V G M post h cr sr pc lv st := by
  obtain ⟨d1, rfl⟩ := d
  exact Vpure (fun hx hb hl _ _ w => lv_aload_n hx hb d1 hi (hl.2.2 _ _ hv) (w _ hl)) k
theorem V_aload {i : Nat} {x : Nat} (d : DC M.2.1 pc (.aload i) 2 pc2) (hv : lv[i]? = some (some (.ref x))) (k : V G M post h cr sr pc2 lv (.ref x :: st)) : V G M post h cr sr pc lv st := by
  obtain ⟨d1, rfl⟩ := d
  exact Vpure (fun hx hb hl _ _ w => lv_aload hx hb d1 (hl.2.2 _ _ hv) (w _ hl)) k
theorem V_aload_nN {n : Fin 4} {i : Nat} (d : DC M.2.1 pc (.aload_n n) 1 pc2) (hi : (n : Nat) = i) (hv : lv[i]? = some (some .null)) (k : V G M post h cr sr pc2 lv (.null :: st)) : V G M post h cr sr pc lv st := by
  obtain ⟨d1, rfl⟩ := d
  exact Vpure (fun hx hb hl _ _ w => lv_aload_nN hx hb d1 hi (hl.2.2 _ _ hv) (w _ hl)) k
theorem V_aloadN {i : Nat} (d : DC M.2.1 pc (.aload i) 2 pc2) (hv : lv[i]? = some (some .null)) (k : V G M post h cr sr pc2 lv (.null :: st)) : V G M post h cr sr pc lv st := by
  obtain ⟨d1, rfl⟩ := d
  exact Vpure (fun hx hb hl _ _ w => lv_aloadN hx hb d1 (hl.2.2 _ _ hv) (w _ hl)) k
theorem V_lload_n {n : Fin 4} {i : Nat} {x : Int64} (d : DC M.2.1 pc (.lload_n n) 1 pc2) (hi : (n : Nat) = i) (hv : lv[i]? = some (some (.long x))) (k : V G M post h cr sr pc2 lv (.long x :: st)) : V G M post h cr sr pc lv st := by
  obtain ⟨d1, rfl⟩ := d
  exact Vpure (fun hx hb hl _ _ w => lv_lload_n hx hb d1 hi (hl.2.2 _ _ hv) (w _ hl)) k
theorem V_lload {i : Nat} {x : Int64} (d : DC M.2.1 pc (.lload i) 2 pc2) (hv : lv[i]? = some (some (.long x))) (k : V G M post h cr sr pc2 lv (.long x :: st)) : V G M post h cr sr pc lv st := by
  obtain ⟨d1, rfl⟩ := d
  exact Vpure (fun hx hb hl _ _ w => lv_lload hx hb d1 (hl.2.2 _ _ hv) (w _ hl)) k
/-- a store of one slot spoils a long just below -/
def okS (lv : List (Option Value)) (i : Nat) : Bool := match i with
  | 0 => true
  | j + 1 => match lv[j]? with
    | some (some (.long _)) => false
    | some (some (.double _)) => false
    | _ => true
theorem Lv.store {ls : Array Slot} {n i : Nat} {v : Value} (hl : Lv ls n lv) (hi : i < n) (hc : v.category = 1) (ho : okS lv i = true) : ∃ ls', storeLocals ls i v = some ls' ∧ Lv ls' n (lv.set i (some v)) := by
  obtain ⟨ls', e', h'⟩ := lv_store1 (l := []) (v := v) ⟨hl.1, hl.2.1, fun _ h => by cases h⟩ hi hc
  refine ⟨ls', e', h'.1, h'.2.1, fun j w hj => ?_⟩
  by_cases e : j = i
  · subst e
    have hlen : j < lv.length := by
      rcases Nat.lt_or_ge j lv.length with q | q
      · exact q
      · rw [List.getElem?_eq_none (by simpa using q)] at hj; cases hj
    rw [List.getElem?_set_self hlen] at hj
    cases hj
    exact h'.2.2 (j, v) List.mem_cons_self
  · rw [List.getElem?_set_ne (Ne.symm e)] at hj
    obtain ⟨ls2, e2, h2⟩ := lv_store1 (l := [(j, w)]) (v := v) ⟨hl.1, hl.2.1, fun q hq => by
      rw [List.mem_singleton] at hq; subst hq; exact hl.2.2 j w hj⟩ hi hc
    cases e'.symm.trans e2
    refine h2.2.2 (j, w) (List.mem_cons_of_mem _ (List.mem_filter.mpr ⟨List.mem_singleton.mpr rfl, ?_⟩))
    have hx : ¬ (j + 1 = i ∧ w.category = 2) := by
      rintro ⟨rfl, hw⟩
      unfold okS at ho
      dsimp only at ho
      rw [hj] at ho
      cases w <;> simp [Value.category] at hw ho
    simp only [Bool.and_eq_true, Bool.not_eq_true', beq_eq_false_iff_ne, ne_eq]
    refine ⟨e, ?_⟩
    cases hb : (j + 1 == i && w.category == 2) with
    | false => rfl
    | true => exact absurd (by simpa using hb) hx
theorem V_istore_n {n : Fin 4} {i : Nat} {x : Int32} {lv2 : List (Option Value)} (d : DC M.2.1 pc (.istore_n n) 1 pc2) (hi : (n : Nat) = i) (hn : i < M.2.2.1) (ho : okS lv i = true) (he : lv.set i (some (.int x)) = lv2) (k : V G M post h cr sr pc2 lv2 st) : V G M post h cr sr pc lv (.int x :: st) := by
  obtain ⟨hdg, rfl⟩ := d
  subst he hi
  refine Vpure (fun {p l e R s m args below meth c H locs cells slots Q ls} hexec hb hl _ _ w => ?_) k
  obtain ⟨ls', e', h'⟩ := hl.store (v := .int x) hn rfl ho
  intro T hT X
  obtain ⟨t, a, b⟩ := w ls' h' T hT X
  refine ⟨t, ?_, b⟩
  jvm_step X.here [X.here.top, ↓top_set X.here.top, hexec, hb, hdg, e']
  exact a
theorem V_istore {i : Nat} {x : Int32} {lv2 : List (Option Value)} (d : DC M.2.1 pc (.istore i) 2 pc2) (hn : i < M.2.2.1) (ho : okS lv i = true) (he : lv.set i (some (.int x)) = lv2) (k : V G M post h cr sr pc2 lv2 st) : V G M post h cr sr pc lv (.int x :: st) := by
  obtain ⟨hdg, rfl⟩ := d
  subst he
  refine Vpure (fun {p l e R s m args below meth c H locs cells slots Q ls} hexec hb hl _ _ w => ?_) k
  obtain ⟨ls', e', h'⟩ := hl.store (v := .int x) hn rfl ho
  intro T hT X
  obtain ⟨t, a, b⟩ := w ls' h' T hT X
  refine ⟨t, ?_, b⟩
  jvm_step X.here [X.here.top, ↓top_set X.here.top, hexec, hb, hdg, e']
  exact a
theorem V_astore_n {n : Fin 4} {i : Nat} {x : Nat} {lv2 : List (Option Value)} (d : DC M.2.1 pc (.astore_n n) 1 pc2) (hi : (n : Nat) = i) (hn : i < M.2.2.1) (ho : okS lv i = true) (he : lv.set i (some (.ref x)) = lv2) (k : V G M post h cr sr pc2 lv2 st) : V G M post h cr sr pc lv (.ref x :: st) := by
  obtain ⟨hdg, rfl⟩ := d
  subst he hi
  refine Vpure (fun {p l e R s m args below meth c H locs cells slots Q ls} hexec hb hl _ _ w => ?_) k
  obtain ⟨ls', e', h'⟩ := hl.store (v := .ref x) hn rfl ho
  intro T hT X
  obtain ⟨t, a, b⟩ := w ls' h' T hT X
  refine ⟨t, ?_, b⟩
  jvm_step X.here [X.here.top, ↓top_set X.here.top, hexec, hb, hdg, e']
  exact ⟨rfl, a⟩
theorem V_astore {i : Nat} {x : Nat} {lv2 : List (Option Value)} (d : DC M.2.1 pc (.astore i) 2 pc2) (hn : i < M.2.2.1) (ho : okS lv i = true) (he : lv.set i (some (.ref x)) = lv2) (k : V G M post h cr sr pc2 lv2 st) : V G M post h cr sr pc lv (.ref x :: st) := by
  obtain ⟨hdg, rfl⟩ := d
  subst he
  refine Vpure (fun {p l e R s m args below meth c H locs cells slots Q ls} hexec hb hl _ _ w => ?_) k
  obtain ⟨ls', e', h'⟩ := hl.store (v := .ref x) hn rfl ho
  intro T hT X
  obtain ⟨t, a, b⟩ := w ls' h' T hT X
  refine ⟨t, ?_, b⟩
  jvm_step X.here [X.here.top, ↓top_set X.here.top, hexec, hb, hdg, e']
  exact ⟨rfl, a⟩
theorem V_astore_nN {n : Fin 4} {i : Nat} {lv2 : List (Option Value)} (d : DC M.2.1 pc (.astore_n n) 1 pc2) (hi : (n : Nat) = i) (hn : i < M.2.2.1) (ho : okS lv i = true) (he : lv.set i (some .null) = lv2) (k : V G M post h cr sr pc2 lv2 st) : V G M post h cr sr pc lv (.null :: st) := by
  obtain ⟨hdg, rfl⟩ := d
  subst he hi
  refine Vpure (fun {p l e R s m args below meth c H locs cells slots Q ls} hexec hb hl _ _ w => ?_) k
  obtain ⟨ls', e', h'⟩ := hl.store (v := .null) hn rfl ho
  intro T hT X
  obtain ⟨t, a, b⟩ := w ls' h' T hT X
  refine ⟨t, ?_, b⟩
  jvm_step X.here [X.here.top, ↓top_set X.here.top, hexec, hb, hdg, e']
  exact ⟨rfl, a⟩
theorem V_astoreN {i : Nat} {lv2 : List (Option Value)} (d : DC M.2.1 pc (.astore i) 2 pc2) (hn : i < M.2.2.1) (ho : okS lv i = true) (he : lv.set i (some .null) = lv2) (k : V G M post h cr sr pc2 lv2 st) : V G M post h cr sr pc lv (.null :: st) := by
  obtain ⟨hdg, rfl⟩ := d
  subst he
  refine Vpure (fun {p l e R s m args below meth c H locs cells slots Q ls} hexec hb hl _ _ w => ?_) k
  obtain ⟨ls', e', h'⟩ := hl.store (v := .null) hn rfl ho
  intro T hT X
  obtain ⟨t, a, b⟩ := w ls' h' T hT X
  refine ⟨t, ?_, b⟩
  jvm_step X.here [X.here.top, ↓top_set X.here.top, hexec, hb, hdg, e']
  exact ⟨rfl, a⟩
theorem V_iinc {i : Nat} {n : Int} {x v : Int32} {lv2 : List (Option Value)} (d : DC M.2.1 pc (.iinc i n) 3 pc2) (hg0 : lv[i]? = some (some (.int x))) (hv : x + Int32.ofInt n = v) (hn : i < M.2.2.1) (ho : okS lv i = true) (he : lv.set i (some (.int v)) = lv2) (k : V G M post h cr sr pc2 lv2 st) : V G M post h cr sr pc lv st := by
  obtain ⟨hdg, rfl⟩ := d
  subst he hv
  refine Vpure (fun {p l e R s m args below meth c H locs cells slots Q ls} hexec hb hl _ _ w => ?_) k
  have hg := hl.2.2 _ _ hg0
  obtain ⟨ls', e', h'⟩ := hl.store (v := .int (x + Int32.ofInt n)) hn rfl ho
  intro T hT X
  obtain ⟨t, a, b⟩ := w ls' h' T hT X
  refine ⟨t, ?_, b⟩
  jvm_step X.here [X.here.top, ↓top_set X.here.top, hexec, hb, hdg, hg, e']
  exact a
theorem V_iadd {x y : Int32} (d : DC M.2.1 pc .iadd 1 pc2) (k : V G M post h cr sr pc2 lv (.int (x + y) :: st)) : V G M post h cr sr pc lv (.int y :: .int x :: st) := by
  obtain ⟨d1, rfl⟩ := d
  exact Vpure (fun hx hb hl _ _ w => lv_iadd hx hb d1 (w _ hl)) k
theorem V_isub {x y : Int32} (d : DC M.2.1 pc .isub 1 pc2) (k : V G M post h cr sr pc2 lv (.int (x - y) :: st)) : V G M post h cr sr pc lv (.int y :: .int x :: st) := by
  obtain ⟨d1, rfl⟩ := d
  exact Vpure (fun hx hb hl _ _ w => lv_isub hx hb d1 (w _ hl)) k
theorem V_imul {x y : Int32} (d : DC M.2.1 pc .imul 1 pc2) (k : V G M post h cr sr pc2 lv (.int (x * y) :: st)) : V G M post h cr sr pc lv (.int y :: .int x :: st) := by
  obtain ⟨d1, rfl⟩ := d
  exact Vpure (fun hx hb hl _ _ w => lv_imul hx hb d1 (w _ hl)) k
theorem V_iand {x y : Int32} (d : DC M.2.1 pc .iand 1 pc2) (k : V G M post h cr sr pc2 lv (.int (x &&& y) :: st)) : V G M post h cr sr pc lv (.int y :: .int x :: st) := by
  obtain ⟨d1, rfl⟩ := d
  exact Vpure (fun hx hb hl _ _ w => lv_iand hx hb d1 (w _ hl)) k
theorem V_ishr {x y : Int32} (d : DC M.2.1 pc .ishr 1 pc2) (k : V G M post h cr sr pc2 lv (.int (x >>> (y &&& 31)) :: st)) : V G M post h cr sr pc lv (.int y :: .int x :: st) := by
  obtain ⟨d1, rfl⟩ := d
  exact Vpure (fun hx hb hl _ _ w => lv_ishr hx hb d1 (w _ hl)) k
theorem V_idiv {x y : Int32} (d : DC M.2.1 pc .idiv 1 pc2) (hne : ¬ y = 0) (k : V G M post h cr sr pc2 lv (.int (x / y) :: st)) : V G M post h cr sr pc lv (.int y :: .int x :: st) := by
  obtain ⟨d1, rfl⟩ := d
  exact Vpure (fun hx hb hl _ _ w => lv_idiv hx hb d1 hne (w _ hl)) k
theorem V_irem {x y : Int32} (d : DC M.2.1 pc .irem 1 pc2) (hne : ¬ y = 0) (k : V G M post h cr sr pc2 lv (.int (x - x / y * y) :: st)) : V G M post h cr sr pc lv (.int y :: .int x :: st) := by
  obtain ⟨d1, rfl⟩ := d
  exact Vpure (fun hx hb hl _ _ w => lv_irem hx hb d1 hne (w _ hl)) k
theorem V_ladd {x y : Int64} (d : DC M.2.1 pc .ladd 1 pc2) (k : V G M post h cr sr pc2 lv (.long (x + y) :: st)) : V G M post h cr sr pc lv (.long y :: .long x :: st) := by
  obtain ⟨d1, rfl⟩ := d
  exact Vpure (fun hx hb hl _ _ w => lv_ladd hx hb d1 (w _ hl)) k
theorem V_lmul {x y : Int64} (d : DC M.2.1 pc .lmul 1 pc2) (k : V G M post h cr sr pc2 lv (.long (x * y) :: st)) : V G M post h cr sr pc lv (.long y :: .long x :: st) := by
  obtain ⟨d1, rfl⟩ := d
  exact Vpure (fun hx hb hl _ _ w => lv_lmul hx hb d1 (w _ hl)) k
theorem V_i2l {x : Int32} (d : DC M.2.1 pc .i2l 1 pc2) (k : V G M post h cr sr pc2 lv (.long x.toInt64 :: st)) : V G M post h cr sr pc lv (.int x :: st) := by
  obtain ⟨d1, rfl⟩ := d
  exact Vpure (fun hx hb hl _ _ w => lv_i2l hx hb d1 rfl (w _ hl)) k
theorem V_ldc2 {idx : Nat} {v : Int64} (d : DC M.2.1 pc (.ldc2_w idx) 3 pc2) (hc : Cond.constantLong M.1.cls idx v ∈ lw_tbl) (k : V G M post h cr sr pc2 lv (.long v :: st)) : V G M post h cr sr pc lv st := by
  obtain ⟨d1, rfl⟩ := d
  exact Vpure (fun hx hb hl ho ht w => lv_ldc2 hx hb ho (ht _ (tb_in hc rfl)) d1 (w _ hl)) k
theorem V_dup {a : Value} (d : DC M.2.1 pc .dup 1 pc2) (ha : a.category = 1) (k : V G M post h cr sr pc2 lv (a :: a :: st)) : V G M post h cr sr pc lv (a :: st) := by
  obtain ⟨d1, rfl⟩ := d
  exact Vpure (fun hx hb hl _ _ w => lv_dup hx hb d1 ha (w _ hl)) k
theorem V_dup_x1 {a b : Value} (d : DC M.2.1 pc .dup_x1 1 pc2) (ha : a.category = 1) (hb' : b.category = 1) (k : V G M post h cr sr pc2 lv (a :: b :: a :: st)) : V G M post h cr sr pc lv (a :: b :: st) := by
  obtain ⟨d1, rfl⟩ := d
  exact Vpure (fun hx hb hl _ _ w => lv_dup_x1 hx hb d1 ha hb' (w _ hl)) k
theorem V_dup2 {a b : Value} (d : DC M.2.1 pc .dup2 1 pc2) (ha : a.category = 1) (hb' : b.category = 1) (k : V G M post h cr sr pc2 lv (a :: b :: a :: b :: st)) : V G M post h cr sr pc lv (a :: b :: st) := by
  obtain ⟨d1, rfl⟩ := d
  exact Vpure (fun hx hb hl _ _ w => lv_dup2_11 hx hb d1 ha hb' (w _ hl)) k
theorem V_pop {a : Value} (d : DC M.2.1 pc .pop 1 pc2) (ha : a.category = 1) (k : V G M post h cr sr pc2 lv st) : V G M post h cr sr pc lv (a :: st) := by
  obtain ⟨d1, rfl⟩ := d
  exact Vpure (fun hx hb hl _ _ w => lv_pop hx hb d1 ha (w _ hl)) k
theorem V_null (d : DC M.2.1 pc .aconst_null 1 pc2) (k : V G M post h cr sr pc2 lv (.null :: st)) : V G M post h cr sr pc lv st := by
  obtain ⟨d1, rfl⟩ := d
  exact Vpure (fun hx hb hl _ _ w => lv_null hx hb d1 (w _ hl)) k
theorem V_goto {off : Int} {tgt : Nat} (d : DJ M.2.1 pc (.goto off) 3 pc2 off tgt) (k : V G M post h cr sr tgt lv st) : V G M post h cr sr pc lv st := by
  obtain ⟨⟨d1, rfl⟩, d2⟩ := d
  exact Vpure (fun hx hb hl _ _ w => lv_goto hx hb d1 d2 (w _ hl)) k
theorem V_ifnull {off : Int} {tgt x : Nat} (d : DJ M.2.1 pc (.ifnull off) 3 pc2 off tgt) (k : V G M post h cr sr pc2 lv st) : V G M post h cr sr pc lv (.ref x :: st) := by
  obtain ⟨⟨d1, rfl⟩, d2⟩ := d
  exact Vpure (fun hx hb hl _ _ w => lv_ifnull hx hb d1 (w _ hl)) k
theorem V_ifnullN {off : Int} {tgt : Nat} (d : DJ M.2.1 pc (.ifnull off) 3 pc2 off tgt) (k : V G M post h cr sr tgt lv st) : V G M post h cr sr pc lv (.null :: st) := by
  obtain ⟨⟨d1, rfl⟩, d2⟩ := d
  exact Vpure (fun hx hb hl _ _ w => lv_ifnullN hx hb d1 d2 (w _ hl)) k
theorem V_ifnonnull {off : Int} {tgt x : Nat} (d : DJ M.2.1 pc (.ifnonnull off) 3 pc2 off tgt) (k : V G M post h cr sr tgt lv st) : V G M post h cr sr pc lv (.ref x :: st) := by
  obtain ⟨⟨d1, rfl⟩, d2⟩ := d
  exact Vpure (fun hx hb hl _ _ w => lv_ifnonnull hx hb d1 d2 (w _ hl)) k
theorem V_ifnonnullN {off : Int} {tgt : Nat} (d : DJ M.2.1 pc (.ifnonnull off) 3 pc2 off tgt) (k : V G M post h cr sr pc2 lv st) : V G M post h cr sr pc lv (.null :: st) := by
  obtain ⟨⟨d1, rfl⟩, d2⟩ := d
  exact Vpure (fun hx hb hl _ _ w => lv_ifnonnullN hx hb d1 (w _ hl)) k
theorem V_icmp_eq {x y : Int32} {off : Int} {tgt : Nat} (d : DJ M.2.1 pc (.if_icmp .eq off) 3 pc2 off tgt) (kt : x = y → V G M post h cr sr tgt lv st) (kf : ¬ x = y → V G M post h cr sr pc2 lv st) : V G M post h cr sr pc lv (.int y :: .int x :: st) := by
  intro p l e s m args below meth c A H locs cells slots ls S
  obtain ⟨⟨d1, rfl⟩, d2⟩ := d
  exact lv_icmp_eq S.1.1 S.1.2.1 d1 d2 (fun q => kt q p l e s m args below meth c A H locs cells slots ls S) (fun q => kf q p l e s m args below meth c A H locs cells slots ls S)
theorem V_icmp_ne {x y : Int32} {off : Int} {tgt : Nat} (d : DJ M.2.1 pc (.if_icmp .ne off) 3 pc2 off tgt) (kt : ¬ x = y → V G M post h cr sr tgt lv st) (kf : x = y → V G M post h cr sr pc2 lv st) : V G M post h cr sr pc lv (.int y :: .int x :: st) := by
  intro p l e s m args below meth c A H locs cells slots ls S
  obtain ⟨⟨d1, rfl⟩, d2⟩ := d
  exact lv_icmp_ne S.1.1 S.1.2.1 d1 d2 (fun q => kt q p l e s m args below meth c A H locs cells slots ls S) (fun q => kf q p l e s m args below meth c A H locs cells slots ls S)
theorem V_icmp_lt {x y : Int32} {off : Int} {tgt : Nat} (d : DJ M.2.1 pc (.if_icmp .lt off) 3 pc2 off tgt) (kt : x < y → V G M post h cr sr tgt lv st) (kf : ¬ x < y → V G M post h cr sr pc2 lv st) : V G M post h cr sr pc lv (.int y :: .int x :: st) := by
  intro p l e s m args below meth c A H locs cells slots ls S
  obtain ⟨⟨d1, rfl⟩, d2⟩ := d
  exact lv_icmp_lt S.1.1 S.1.2.1 d1 d2 (fun q => kt q p l e s m args below meth c A H locs cells slots ls S) (fun q => kf q p l e s m args below meth c A H locs cells slots ls S)
theorem V_icmp_ge {x y : Int32} {off : Int} {tgt : Nat} (d : DJ M.2.1 pc (.if_icmp .ge off) 3 pc2 off tgt) (kt : y ≤ x → V G M post h cr sr tgt lv st) (kf : ¬ y ≤ x → V G M post h cr sr pc2 lv st) : V G M post h cr sr pc lv (.int y :: .int x :: st) := by
  intro p l e s m args below meth c A H locs cells slots ls S
  obtain ⟨⟨d1, rfl⟩, d2⟩ := d
  exact lv_icmp_ge S.1.1 S.1.2.1 d1 d2 (fun q => kt q p l e s m args below meth c A H locs cells slots ls S) (fun q => kf q p l e s m args below meth c A H locs cells slots ls S)
theorem V_icmp_gt {x y : Int32} {off : Int} {tgt : Nat} (d : DJ M.2.1 pc (.if_icmp .gt off) 3 pc2 off tgt) (kt : y < x → V G M post h cr sr tgt lv st) (kf : ¬ y < x → V G M post h cr sr pc2 lv st) : V G M post h cr sr pc lv (.int y :: .int x :: st) := by
  intro p l e s m args below meth c A H locs cells slots ls S
  obtain ⟨⟨d1, rfl⟩, d2⟩ := d
  exact lv_icmp_gt S.1.1 S.1.2.1 d1 d2 (fun q => kt q p l e s m args below meth c A H locs cells slots ls S) (fun q => kf q p l e s m args below meth c A H locs cells slots ls S)
theorem V_icmp_le {x y : Int32} {off : Int} {tgt : Nat} (d : DJ M.2.1 pc (.if_icmp .le off) 3 pc2 off tgt) (kt : x ≤ y → V G M post h cr sr tgt lv st) (kf : ¬ x ≤ y → V G M post h cr sr pc2 lv st) : V G M post h cr sr pc lv (.int y :: .int x :: st) := by
  intro p l e s m args below meth c A H locs cells slots ls S
  obtain ⟨⟨d1, rfl⟩, d2⟩ := d
  exact lv_icmp_le S.1.1 S.1.2.1 d1 d2 (fun q => kt q p l e s m args below meth c A H locs cells slots ls S) (fun q => kf q p l e s m args below meth c A H locs cells slots ls S)
theorem V_if_eq {x : Int32} {off : Int} {tgt : Nat} (d : DJ M.2.1 pc (.ifCond .eq off) 3 pc2 off tgt) (kt : x = 0 → V G M post h cr sr tgt lv st) (kf : ¬ x = 0 → V G M post h cr sr pc2 lv st) : V G M post h cr sr pc lv (.int x :: st) := by
  intro p l e s m args below meth c A H locs cells slots ls S
  obtain ⟨⟨d1, rfl⟩, d2⟩ := d
  exact lv_if_eq S.1.1 S.1.2.1 d1 d2 (fun q => kt q p l e s m args below meth c A H locs cells slots ls S) (fun q => kf q p l e s m args below meth c A H locs cells slots ls S)
theorem V_if_ne {x : Int32} {off : Int} {tgt : Nat} (d : DJ M.2.1 pc (.ifCond .ne off) 3 pc2 off tgt) (kt : ¬ x = 0 → V G M post h cr sr tgt lv st) (kf : x = 0 → V G M post h cr sr pc2 lv st) : V G M post h cr sr pc lv (.int x :: st) := by
  intro p l e s m args below meth c A H locs cells slots ls S
  obtain ⟨⟨d1, rfl⟩, d2⟩ := d
  exact lv_if_ne S.1.1 S.1.2.1 d1 d2 (fun q => kt q p l e s m args below meth c A H locs cells slots ls S) (fun q => kf q p l e s m args below meth c A H locs cells slots ls S)
theorem V_if_lt {x : Int32} {off : Int} {tgt : Nat} (d : DJ M.2.1 pc (.ifCond .lt off) 3 pc2 off tgt) (kt : x < 0 → V G M post h cr sr tgt lv st) (kf : ¬ x < 0 → V G M post h cr sr pc2 lv st) : V G M post h cr sr pc lv (.int x :: st) := by
  intro p l e s m args below meth c A H locs cells slots ls S
  obtain ⟨⟨d1, rfl⟩, d2⟩ := d
  exact lv_if_lt S.1.1 S.1.2.1 d1 d2 (fun q => kt q p l e s m args below meth c A H locs cells slots ls S) (fun q => kf q p l e s m args below meth c A H locs cells slots ls S)
theorem V_if_ge {x : Int32} {off : Int} {tgt : Nat} (d : DJ M.2.1 pc (.ifCond .ge off) 3 pc2 off tgt) (kt : 0 ≤ x → V G M post h cr sr tgt lv st) (kf : ¬ 0 ≤ x → V G M post h cr sr pc2 lv st) : V G M post h cr sr pc lv (.int x :: st) := by
  intro p l e s m args below meth c A H locs cells slots ls S
  obtain ⟨⟨d1, rfl⟩, d2⟩ := d
  exact lv_if_ge S.1.1 S.1.2.1 d1 d2 (fun q => kt q p l e s m args below meth c A H locs cells slots ls S) (fun q => kf q p l e s m args below meth c A H locs cells slots ls S)
theorem V_if_gt {x : Int32} {off : Int} {tgt : Nat} (d : DJ M.2.1 pc (.ifCond .gt off) 3 pc2 off tgt) (kt : 0 < x → V G M post h cr sr tgt lv st) (kf : ¬ 0 < x → V G M post h cr sr pc2 lv st) : V G M post h cr sr pc lv (.int x :: st) := by
  intro p l e s m args below meth c A H locs cells slots ls S
  obtain ⟨⟨d1, rfl⟩, d2⟩ := d
  exact lv_if_gt S.1.1 S.1.2.1 d1 d2 (fun q => kt q p l e s m args below meth c A H locs cells slots ls S) (fun q => kf q p l e s m args below meth c A H locs cells slots ls S)
theorem V_if_le {x : Int32} {off : Int} {tgt : Nat} (d : DJ M.2.1 pc (.ifCond .le off) 3 pc2 off tgt) (kt : x ≤ 0 → V G M post h cr sr tgt lv st) (kf : ¬ x ≤ 0 → V G M post h cr sr pc2 lv st) : V G M post h cr sr pc lv (.int x :: st) := by
  intro p l e s m args below meth c A H locs cells slots ls S
  obtain ⟨⟨d1, rfl⟩, d2⟩ := d
  exact lv_if_le S.1.1 S.1.2.1 d1 d2 (fun q => kt q p l e s m args below meth c A H locs cells slots ls S) (fun q => kf q p l e s m args below meth c A H locs cells slots ls S)
theorem V_acmp_eq {rx ry : Option Nat} {off : Int} {tgt : Nat} (d : DJ M.2.1 pc (.if_acmp .eq off) 3 pc2 off tgt) (kt : rx = ry → V G M post h cr sr tgt lv st) (kf : ¬ rx = ry → V G M post h cr sr pc2 lv st) : V G M post h cr sr pc lv (va_rf ry :: va_rf rx :: st) := by
  intro p l e s m args below meth c A H locs cells slots ls S
  obtain ⟨⟨d1, rfl⟩, d2⟩ := d
  exact lv_acmp_eq S.1.1 S.1.2.1 d1 d2 (fun q => kt q p l e s m args below meth c A H locs cells slots ls S) (fun q => kf q p l e s m args below meth c A H locs cells slots ls S)
theorem V_acmp_ne {rx ry : Option Nat} {off : Int} {tgt : Nat} (d : DJ M.2.1 pc (.if_acmp .ne off) 3 pc2 off tgt) (kt : ¬ rx = ry → V G M post h cr sr tgt lv st) (kf : rx = ry → V G M post h cr sr pc2 lv st) : V G M post h cr sr pc lv (va_rf ry :: va_rf rx :: st) := by
  intro p l e s m args below meth c A H locs cells slots ls S
  obtain ⟨⟨d1, rfl⟩, d2⟩ := d
  exact lv_acmp_ne S.1.1 S.1.2.1 d1 d2 (fun q => kt q p l e s m args below meth c A H locs cells slots ls S) (fun q => kf q p l e s m args below meth c A H locs cells slots ls S)
theorem V_tableIn {dflt lo hi : Int} {offs : Array Int} {len : Nat} {x : Int32} {off : Int} {tgt : Nat} (d : DC M.2.1 pc (.tableswitch dflt lo hi offs) len pc2) (h1 : ¬ x.toInt < lo) (h2 : ¬ hi < x.toInt) (ho : offs[(x.toInt - lo).toNat]? = some off) (ht : (pc : Int) + off = (tgt : Int)) (k : V G M post h cr sr tgt lv st) : V G M post h cr sr pc lv (.int x :: st) := by
  obtain ⟨d1, rfl⟩ := d
  exact Vpure (fun hx hb hl _ _ w => lv_tableIn hx hb d1 h1 h2 ho ht (w _ hl)) k
theorem V_tableOut {dflt lo hi : Int} {offs : Array Int} {len : Nat} {x : Int32} {tgt : Nat} (d : DC M.2.1 pc (.tableswitch dflt lo hi offs) len pc2) (h1 : x.toInt < lo ∨ hi < x.toInt) (ht : (pc : Int) + dflt = (tgt : Int)) (k : V G M post h cr sr tgt lv st) : V G M post h cr sr pc lv (.int x :: st) := by
  obtain ⟨d1, rfl⟩ := d
  exact Vpure (fun hx hb hl _ _ w => lv_tableOut hx hb d1 h1 ht (w _ hl)) k
theorem V_lookup {dflt : Int} {ps : Array (Int × Int)} {len : Nat} {x : Int32} {off : Int} {tgt : Nat} (d : DC M.2.1 pc (.lookupswitch dflt ps) len pc2) (hp : (ps.toList.zip (ps.toList.drop 1)).all (fun (a, next) => a.1 < next.1) = true) (ho : Op.lookupswitch.offset ps.toList dflt x.toInt = off) (ht : (pc : Int) + off = (tgt : Int)) (k : V G M post h cr sr tgt lv st) : V G M post h cr sr pc lv (.int x :: st) := by
  obtain ⟨d1, rfl⟩ := d
  exact Vpure (fun hx hb hl _ _ w => lv_lookup hx hb d1 hp ho ht (w _ hl)) k
end Rows
