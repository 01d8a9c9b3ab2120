abbrev gPLs (q qv n : Nat) (f : Nat → Int32) (D : va_G) (X : gX) (tys : List (ClassId × FieldType)) (sz : Nat) (av : List Value) (ws : va_W) : Array Value → State → Prop := va_Pc av (fun U => (U.heap.size = sz ∧ va_P D vwCl ws U.heap ∧ va_K D vwCl tys U ∧ va_D (fun _ => True) ws ∧ gE X (va_A ws sz) U U.heap ∧ gN U) ∧ gSt q qv n f (va_A ws sz) U U.heap)
theorem gLs_blind {q qv n : Nat} {f : Nat → Int32} {D : va_G} {X : gX} {tys : List (ClassId × FieldType)} {sz : Nat} {av : List Value} {ws : va_W} : FrameBlind (gPLs q qv n f D X tys sz av ws) := fun a U g mk w => by
  obtain ⟨q0, ⟨q1, qP, qK, qD, qE, qN⟩, qT⟩ := w
  exact ⟨q0, ⟨q1, qP, va_K.moved (u := U) (U := U.calling g mk a) (Vm.Alike.refl U.vm) qK, qD, qE.calling g mk a, gN.moved (u := U) (U := U.calling g mk a) (Vm.Alike.refl U.vm) qN⟩, gSt.moved (u := U) (U := U.calling g mk a) (Vm.Alike.refl U.vm) qT⟩
theorem gLs_side {q qv n : Nat} {f : Nat → Int32} {D : va_G} {X : gX} {tys : List (ClassId × FieldType)} {av : List Value} {ws : va_W} {A A0 : Nat → Prop} {s U : State} {H : Heap} {locs : List Loc} (hU : U.heap = H) (hW : s.WarmedH U.vm) (hP : va_P D vwCl ws H) (hK : va_K D vwCl tys s) (hD : va_D A ws)
    (hE : gE X A0 s s.heap) (hN : gN s) (hT : gSt q qv n f A0 s s.heap) (hS : va_S A0 s.heap H locs) (hF : ∀ q, va_A ws H.size q → A0 q) : gPLs q qv n f D X tys H.size av ws av.toArray U :=
  ⟨rfl, ⟨by rw [hU], by rw [hU]; exact hP, va_K.moved hW.alike hK, hD.weaken (fun _ _ _ _ => trivial), by rw [hU]; exact ((hE.kept hS.2.1).narrow hF).warm hW, gN.moved hW.alike hN⟩, by rw [hU]; exact ((hT.kept hS.2.1).narrow hF).moved hW.alike⟩
section GLS
variable {q qv n9 : Nat} {f9 : Nat → Int32} {l : Launch} {y : MethodName} {ws ws' : List Cond} {rm : Room} {D : va_G} {X : gX} {tys : List (ClassId × FieldType)} {sz : Nat} {av : List Value} {W0 : va_W} {S : Type} {W1 : S → va_W} {cc : ByteArray} {maxL mc ms : Nat} {hh : List (Nat × Nat × Nat × Nat)}
theorem g_ofLsi {post : Int32 → S → Prop} (hy : plainFor y = true) (hlen : (lg_sl av).length ≤ maxL) (hw : ws = Cond.code y cc maxL (some .int) :: ws')
    (body : ∀ (p : Program) (e : Env) (s : State) (m : MethodId) (args : Array Value) (below : List Frame) (meth : Method) (c : Code) (A : Nat → Prop) (Q : State → Prop),
      p.tables.exec = Jvm.exec → c.code = cc → c.maxLocals = maxL → s.vm.findClass y.cls = some m.cls → (∀ w ∈ ws, w.before args s = true) → (∀ q : Nat, s.heap.size ≤ q → A q) → va_K D vwCl tys s → gE X A s s.heap → gN s → gSt q qv n9 f9 A s s.heap → ∀ H : Heap, va_P D vwCl W0 H → va_D A W0 → va_S A s.heap H [] →
      ∀ ls : Array Slot, lv_has ls maxL (lv_args 0 av) →
      (∀ {H : Heap} {locs : List Loc} {pc : Nat} {ls : Array Slot} {k n : Nat} (r : Int32) (u : S), k ≤ mc → n ≤ ms → post r u → va_P D vwCl (W1 u) H → va_D A (W1 u) → va_S A s.heap H locs → decode cc pc = .ok (.ireturn, 1) → W p l e rm s m args below meth c H locs k n Q (F0 m pc ls [.int r])) →
      W p l e rm s m args below meth c H [] 0 0 Q (F0 m 0 ls [])) :
    Met l y ws rm (gPLs q qv n9 f9 D X tys sz av W0) (va_Qi post (fun u t => gB D tys (va_A W0 sz) (W1 u) t) (va_A W0 sz)) mc ms (va_A W0 sz) := by
  refine g_MetF (cc := cc) (maxL := maxL) (ret := (some .int)) hy hw ?_
  intro p e s m args below meth c s₁ B hml hv
  obtain ⟨rfl, ⟨hsz, hP, hK, hD0, hE, hN⟩, hT⟩ := hv
  have hts := atoms_spec (ws := ws) B.pre
  have hown : s.vm.findClass y.cls = some m.cls := findClass_of_methodNamed B.named
  subst hsz
  have hD := hD0.self (sz := s.heap.size)
  have hA : ∀ q : Nat, s.heap.size ≤ q → va_A W0 s.heap.size q := fun q h => Or.inr h
  have hl := lv_entry av (n := maxL) hlen
  rw [lg_entry_eq]
  generalize (lg_sl av ++ List.replicate (maxL - (lg_sl av).length) Slot.unset).toArray = ls at hl ⊢
  refine body p e s m _ below meth c _ _ B.exec B.bytes hml hown hts hA hK hE hN hT _ hP hD va_S.rf ls hl ?_
  intro H locs pc ls k n r u hk hn hp hP hD hS hdg
  exact W.widen hk hn (W.iret B.exec B.bytes B.returns (fun t ht hW => ⟨⟨r, u, rfl, hp, by rw [ht]; exact hP, va_K.moved hW.alike hK, hD⟩, hS.F ht⟩) hS.2.2 hdg)
theorem g_ofLsiw {post : Int32 → S → Prop} (hy : plainName y.cls = true) (hlen : (lg_sl av).length ≤ maxL) (hw : ws = Cond.codeWith y cc maxL (some .int) hh :: ws')
    (body : ∀ (p : Program) (e : Env) (s : State) (m : MethodId) (args : Array Value) (below : List Frame) (meth : Method) (c : Code) (A : Nat → Prop) (Q : State → Prop),
      p.tables.exec = Jvm.exec → c.code = cc → c.maxLocals = maxL → s.vm.findClass y.cls = some m.cls → (∀ w ∈ ws, w.before args s = true) → (∀ q : Nat, s.heap.size ≤ q → A q) → va_K D vwCl tys s → gE X A s s.heap → gN s → gSt q qv n9 f9 A s s.heap → c.exceptionTable.toList = tableOf hh → ∀ H : Heap, va_P D vwCl W0 H → va_D A W0 → va_S A s.heap H [] →
      ∀ ls : Array Slot, lv_has ls maxL (lv_args 0 av) →
      (∀ {H : Heap} {locs : List Loc} {pc : Nat} {ls : Array Slot} {k n : Nat} (r : Int32) (u : S), k ≤ mc → n ≤ ms → post r u → va_P D vwCl (W1 u) H → va_D A (W1 u) → va_S A s.heap H locs → decode cc pc = .ok (.ireturn, 1) → W p l e rm s m args below meth c H locs k n Q (F0 m pc ls [.int r])) →
      W p l e rm s m args below meth c H [] 0 0 Q (F0 m 0 ls [])) :
    Met l y ws rm (gPLs q qv n9 f9 D X tys sz av W0) (va_Qi post (fun u t => gB D tys (va_A W0 sz) (W1 u) t) (va_A W0 sz)) mc ms (va_A W0 sz) := by
  refine va_MetW (cc := cc) (maxL := maxL) (ret := (some .int)) (hh := hh) hy hw ?_
  intro p e s m args below meth c s₁ B hml hv
  obtain ⟨rfl, ⟨hsz, hP, hK, hD0, hE, hN⟩, hT⟩ := hv
  have hts := atoms_spec (ws := ws) B.pre
  have hown : s.vm.findClass y.cls = some m.cls := findClass_of_methodNamed B.named
  have htab := vx_table (x := y) B (hts _ (by rw [hw]; exact List.mem_cons_self))
  subst hsz
  have hD := hD0.self (sz := s.heap.size)
  have hA : ∀ q : Nat, s.heap.size ≤ q → va_A W0 s.heap.size q := fun q h => Or.inr h
  have hl := lv_entry av (n := maxL) hlen
  rw [lg_entry_eq]
  generalize (lg_sl av ++ List.replicate (maxL - (lg_sl av).length) Slot.unset).toArray = ls at hl ⊢
  refine body p e s m _ below meth c _ _ B.exec B.bytes hml hown hts hA hK hE hN hT htab _ hP hD va_S.rf ls hl ?_
  intro H locs pc ls k n r u hk hn hp hP hD hS hdg
  exact W.widen hk hn (W.iret B.exec B.bytes B.returns (fun t ht hW => ⟨⟨r, u, rfl, hp, by rw [ht]; exact hP, va_K.moved hW.alike hK, hD⟩, hS.F ht⟩) hS.2.2 hdg)
end GLS

