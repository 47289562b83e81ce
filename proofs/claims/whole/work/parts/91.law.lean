/-! THE LAW: rows for it, and what holds between two calls -/
abbrev la (nm : String) : MI := (⟨RL, nm, "([I)Z"⟩, cL_law, 4, some .boolean, 13, 600000, 7302250)
section Rows
variable {G : Gk} {M N : MI} {post : Option Value → Hp → Prop} {h : Hp} {cr sr pc pc2 : Nat} {lv : List (Option Value)} {st : List Value}
theorem V_lcmp {x y : Int64} (d : DC M.2.1 pc .lcmp 1 pc2) (k : V G M post h cr sr pc2 lv (.int (lg_cmp x y) :: st)) : V G M post h cr sr pc lv (.long y :: .long x :: st) := by
  obtain ⟨d1, rfl⟩ := d
  exact Vpure (fun hx hb hl _ _ w => W.lcmp hx hb d1 (w _ hl)) k
/-- what a call would come to, is there -/
theorem V_exists {postN : Option Value → Hp → Prop} {idx n b k pcm pcn : Nat} {vs As : List Value} (d : DC M.2.1 pcm (.invokevirtual idx) 3 pcn) (ml : Cond.methodLink M.1.cls idx N.1 ∈ lw_tbl) (md : MD N.1 N.2.1 N.2.2.1 N.2.2.2.1 n) (wi : wI N.1) (wz : Cond.selects N.1.cls N.1 N.1 ∈ lw_tbl) (ct : Ct G N (.ref b :: As) h postN)
    (hb' : h b = some (k, vs)) (hk : ∃ r : vw_C, vwCl[k]? = some r ∧ r.1 = N.1.cls) (hn : As.length = n) (hd : N.2.2.2.2.1 + 1 ≤ M.2.2.2.2.1) (hm : N.2.2.1 ≤ 19) (hc : N.2.2.2.2.2.1 = 0) (hs : N.2.2.2.2.2.2 = 0)
    (kk : (∃ v h', postN v h') → V G M post h cr sr pc lv st) : V G M post h cr sr pc lv st := by
  intro p l e s m args below meth c A H locs cells slots ls S
  have S0 := S
  obtain ⟨C0, hH, hD, hS, hb, hl0⟩ := S
  obtain ⟨d1, d2⟩ := d
  obtain ⟨r, hr, hrc⟩ := hk
  have hts := C0.2.2.2.2.2.2.2.1
  have hK := C0.2.2.2.2.2.2.2.2.1
  have hrecv : ∃ cellB : Cell, H[b]? = some cellB ∧ cellB.vm.isStatics = false ∧ s.vm.findClass N.1.cls = some cellB.cls := by
    obtain ⟨r', h1, ⟨cell, q1, q2, q3, -⟩, -⟩ := (hH b k vs hb').obj (cls_lt hr)
    exact ⟨cell, q1, by rw [q3]; rfl, by rw [q2, ← hrc]; exact (hK.1.1 k r hr).2.1⟩
  intro T hT X
  obtain ⟨v, st₀, t, T', L, h0, X', hL, e1, e2, ⟨⟨v', h', hv, hp, hHR, hDm⟩, hz, hk'⟩, stp⟩ := (va_runV (C := N.1.cls) (As := As) (b := b) (g := F0 m pcm ls (As.reverse ++ .ref b :: [])) (rest := []) ⟨C0.1, C0.2.1, C0.2.2.2.1, C0.2.2.2.2.2.1, hts⟩ (ct l H.size) ⟨callB (M := M) hts md ml hd hm, hts _ (tb_in wi rfl), hts _ (tb_in wz rfl)⟩ ⟨blind, hrecv, fun U hU hW => ⟨rfl, by rw [hU], by rw [hU]; exact hH, hK.warm hW⟩⟩ rfl hn hl0.1 rfl (by show 2 * 0 + 0 ≤ 8; omega) d1 ⟨by show cells + _ ≤ M.2.2.2.2.2.1; omega, by show slots + _ ≤ M.2.2.2.2.2.2; omega⟩) T hT X
  exact kk ⟨v', h', hp⟩ p l e s m args below meth c A H locs cells slots ls S0 T hT X
end Rows
section Args
variable {G : Gk} {nm : String} {post : Option Value → Hp → Prop} {h : Hp} {cr sr pc p1 p2 p3 p4 p5 : Nat} {b x m i L : Nat} {xs : Nat → Int32} {st : List Value}
/-- the script's int k behind i -/
theorem V_arg {k : Int} (j : Nat) (d0 : DC cL_law pc (.aload_n 0) 1 p1) (d1 : DC cL_law p1 (.iload_n 3) 1 p2) (d2 : DC cL_law p2 (.iconst k) 1 p3) (d3 : DC cL_law p3 .iadd 1 p4) (d4 : DC cL_law p4 .iaload 1 p5) (hk : Int32.ofInt k = nI j) (hb : h b = some (31, scrL L xs)) (hL : L ≤ 3584) (hi : i + j < L) (kk : V G (la nm) post h cr sr p5 [some (.ref b), some (.ref x), some (.ref m), some (.int (nI i))] (.int (xs (i + j)) :: st)) : V G (la nm) post h cr sr pc [some (.ref b), some (.ref x), some (.ref m), some (.int (nI i))] st := by
  refine V_aload_n d0 rfl rfl ?_
  refine V_iload_n d1 rfl rfl ?_
  refine V_iconst d2 hk ?_
  refine V_iadd d3 ?_
  exact V_sld (i + j) d4 hb (nI_add _ _) (by omega) (scrL_get hi) kk
theorem V_arg6 {k : Int} (j : Nat) (d0 : DC cL_law pc (.aload_n 0) 1 p1) (d1 : DC cL_law p1 (.iload_n 3) 1 p2) (d2 : DC cL_law p2 (.bipush k) 2 p3) (d3 : DC cL_law p3 .iadd 1 p4) (d4 : DC cL_law p4 .iaload 1 p5) (hk : (Int8.ofInt k).toInt32 = nI j) (hb : h b = some (31, scrL L xs)) (hL : L ≤ 3584) (hi : i + j < L) (kk : V G (la nm) post h cr sr p5 [some (.ref b), some (.ref x), some (.ref m), some (.int (nI i))] (.int (xs (i + j)) :: st)) : V G (la nm) post h cr sr pc [some (.ref b), some (.ref x), some (.ref m), some (.int (nI i))] st := by
  refine V_aload_n d0 rfl rfl ?_
  refine V_iload_n d1 rfl rfl ?_
  refine V_bipush d2 hk ?_
  refine V_iadd d3 ?_
  exact V_sld (i + j) d4 hb (nI_add _ _) (by omega) (scrL_get hi) kk
def bz (x : Int32) : Int32 := if x = 0 then 0 else 1
theorem bz_or (x : Int32) : bz x = 0 ∨ bz x = 1 := by
  unfold bz
  split
  · exact Or.inl rfl
  · exact Or.inr rfl
theorem V_bool {y : Int32} {o1 o2 : Int} {t1 t2 : Nat} {lv : List (Option Value)} (d0 : DJ cL_law pc (.ifCond .eq o1) 3 p1 o1 t1) (d1 : DC cL_law p1 (.iconst 1) 1 p2) (d2 : DJ cL_law p2 (.goto o2) 3 p3 o2 t2) (d3 : DC cL_law t1 (.iconst 0) 1 t2) (kk : V G (la nm) post h cr sr t2 lv (.int (bz y) :: st)) : V G (la nm) post h cr sr pc lv (.int y :: st) := by
  refine V_if_eq d0 (fun c => ?_) (fun c => ?_)
  · refine V_iconst (v := 0) d3 (by decide) ?_
    have : bz y = 0 := if_pos c
    rw [this] at kk
    exact kk
  · refine V_iconst (v := 1) d1 (by decide) ?_
    refine V_goto d2 ?_
    have : bz y = 1 := if_neg c
    rw [this] at kk
    exact kk
end Args
theorem PH.up {G : Gk} {g : Gm} {h h' : Hp} {s : Mem} (H : PH G g h s) (S : Stq g h (fun r => r ≠ 0) g h') (hz' : ZG G g h') : PH G g h' s := by
  obtain ⟨hz, dn, un, v, q1, q2, q3, q4, q5, q6, q7, q8⟩ := H
  refine ⟨hz', dn, un, v, q1.st S (by decide), q2.st S (by decide) (by decide), q3.st S (by decide) (by decide), q4, q5, fun k x hx => (q6 k x hx).st S (by decide), fun j x hx => (q7 j x hx).st S (by decide), ?_⟩
  rcases q8 with z | ⟨z, x, es, y1, y2, y3, y4, y5⟩
  · exact Or.inl z
  · exact Or.inr ⟨z, x, es, y1, y2.st S (by decide), y3.st S (by decide) (by decide), y4, fun i y hy => (y5 i y hy).st S (by decide)⟩
/-- between two calls: the class at x and the reference at m bear the same memory -/
def LJ (G : Gk) (b L : Nat) (xs : Nat → Int32) (x m : Nat) (h : Hp) (s : Mem) : Prop := ∃ (g : Gm) (am : Nat → Nat), g.2 2 = x ∧ RC G g h s ∧ RepM h m am s ∧ (∀ a, MA m am a → g.1 a = 0) ∧ h b = some (31, scrL L xs) ∧ g.1 b = 0
theorem RepM.has {h : Hp} {m : Nat} {am : Nat → Nat} {s : Mem} (r : RepM h m am s) {a : Nat} (ha : MA m am a) : ∃ k vs, h a = some (k, vs) ∧ k < 29 := by
  rcases ha with e | ⟨j, hj, e⟩
  · rw [e]; exact ⟨_, _, r.1, by decide⟩
  · rw [e]
    refine ⟨_, _, r.2.1 j hj, ?_⟩
    unfold kA
    split <;> decide
theorem RepM.st {g g' : Gm} {h h' : Hp} {m : Nat} {am : Nat → Nat} {s : Mem} (r : RepM h m am s) (hM : ∀ a, MA m am a → g.1 a = 0) (S : Stq g h (fun r => r = 0) g' h') : RepM h' m am s ∧ ∀ a, MA m am a → g'.1 a = 0 := by
  have key : ∀ a, MA m am a → h' a = h a ∧ g'.1 a = 0 := fun a ha => by
    obtain ⟨k, vs, e, _⟩ := r.has ha
    have := S.1 a (by rw [e]; simp) (hM a ha)
    exact ⟨this.1, this.2.trans (hM a ha)⟩
  refine ⟨⟨by rw [(key m (Or.inl rfl)).1]; exact r.1, fun j hj => by rw [(key (am j) (Or.inr ⟨j, hj, rfl⟩)).1]; exact r.2.1 j hj, r.2.2⟩, fun a ha => (key a ha).2⟩
theorem LJ.next {G : Gk} {b L x m : Nat} {xs : Nat → Int32} {g : Gm} {am : Nat → Nat} {h h1 h2 : Hp} {s t : Mem} (hx : g.2 2 = x) (r : RepM h m am s) (hM : ∀ a, MA m am a → g.1 a = 0) (hb : h b = some (31, scrL L xs)) (hgb : g.1 b = 0) (hs : Sm t) (N : Nc G g h h1 t) (M2 : Mod h1 m am h2 t) : LJ G b L xs x m h2 t := by
  obtain ⟨g', ⟨R1, R2⟩, S, e⟩ := N
  obtain ⟨r1, hM1⟩ := r.st hM S
  have hb1 := S.1 b (by rw [hb]; simp) hgb
  have S2 : Stq g' h1 (fun r => r ≠ 0) g' h2 := Stq.of (fun a _ hd => M2.2 a (fun z => hd (hM1 a z)))
  have nb : ∀ {a k vs}, h1 a = some (k, vs) → 29 ≤ k → ¬ MA m am a := fun {a k vs} ha hk z => by
    obtain ⟨k', vs', e', hk'⟩ := r1.has z
    rw [ha] at e'
    cases e'
    omega
  have hz : ZG G g' h2 := by
    obtain ⟨⟨z1, z2⟩, z3, z4⟩ := R2.1
    exact ⟨⟨by rw [M2.2 _ (nb z1 (by decide))]; exact z1, by rw [M2.2 _ (nb z2 (by decide))]; exact z2⟩, z3, z4⟩
  have hb1' : h1 b = some (31, scrL L xs) := hb1.1.trans hb
  exact ⟨g', am, e.trans hx, ⟨R1.st hs S2 (fun r hr => by omega), R2.up S2 hz⟩, M2.1, hM1, by rw [M2.2 _ (nb hb1' (by decide))]; exact hb1', hb1.2.trans hgb⟩
theorem Inv.sm {n : Nat} {s : Mem} (h : Inv n s) : Sm s := ⟨h.1.1.2.1, h.2.1.2.1, h.2.2.2.1.2.1, h.2.2.1.2.1⟩
