/-! the law's static methods: a start with a table of handlers -/
def gNc : List (String × String) := [("java/lang/IllegalArgumentException", "java/lang/IllegalStateException"), ("java/lang/IllegalArgumentException", "java/util/NoSuchElementException"), ("java/lang/IllegalStateException", "java/lang/IllegalArgumentException"), ("java/lang/IllegalStateException", "java/util/NoSuchElementException"), ("java/util/NoSuchElementException", "java/lang/IllegalArgumentException"), ("java/util/NoSuchElementException", "java/lang/IllegalStateException")]
def gN (U : State) : Prop := ∀ q ∈ gNc, va_Nc q.1 q.2 U
theorem gN.moved {u U : State} (hvm : u.vm.Alike U.vm) (h : gN u) : gN U := fun q hq => va_Nc.moved hvm (h q hq)
abbrev gTL (cI cZ cB cG cJ cD : ClassId) : List (ClassId × FieldType) := [(cI, .int), (cZ, .boolean), (cB, .byte), (cG, .object "ParityGame$Game"), (cJ, .long), (cD, .double)]
abbrev gPL (D : va_G) (X : gX) (tys : List (ClassId × FieldType)) (sz : Nat) (av : List Value) (ws : va_W) : Array Value → State → Prop := va_Pc av (fun U => U.heap.size = sz ∧ va_P D vwCl ws U.heap ∧ va_K D vwCl tys U ∧ va_D (fun _ => True) ws ∧ gE X (va_A ws sz) U U.heap ∧ gN U)
theorem gL_blind {D : va_G} {X : gX} {tys : List (ClassId × FieldType)} {sz : Nat} {av : List Value} {ws : va_W} : FrameBlind (gPL D X tys sz av ws) := fun a U g mk q => by
  obtain ⟨q0, q1, qP, qK, qD, qE, qN⟩ := q
  exact ⟨q0, q1, qP, va_K.moved (u := U) (U := U.calling g mk a) (Vm.Alike.refl U.vm) qK, qD, qE.calling g mk a, gN.moved (u := U) (U := U.calling g mk a) (Vm.Alike.refl U.vm) qN⟩
theorem gL_side {D : va_G} {X : gX} {tys : List (ClassId × FieldType)} {av : List Value} {ws : va_W} {A A0 : Nat → Prop} {s U : State} {H : Heap} {locs : List Loc} (hU : U.heap = H) (hW : s.WarmedH U.vm) (hP : va_P D vwCl ws H) (hK : va_K D vwCl tys s) (hD : va_D A ws)
    (hE : gE X A0 s s.heap) (hN : gN s) (hS : va_S A0 s.heap H locs) (hF : ∀ q, va_A ws H.size q → A0 q) : gPL D X tys H.size av ws av.toArray U :=
  ⟨rfl, by rw [hU], by rw [hU]; exact hP, va_K.moved hW.alike hK, hD.weaken (fun _ _ _ _ => trivial), by rw [hU]; exact ((hE.kept hS.2.1).narrow hF).warm hW, gN.moved hW.alike hN⟩
section GOL
variable {l : Launch} {y : MethodName} {ws ws' : List Cond} {rm : Room} {D : va_G} {X : gX} {tys : List (ClassId × FieldType)} {sz : Nat} {av : List Value} {W0 : va_W} {S : Type} {W1 : S → va_W} {cc : ByteArray} {maxL mc ms : Nat} {hh : List (Nat × Nat × Nat × Nat)}
theorem g_ofWL {post : Int32 → S → Prop} (hy : plainName y.cls = true) (hlen : (lg_sl av).length ≤ maxL) (hw : ws = Cond.codeWith y cc maxL (some .int) hh :: ws')
    (body : ∀ (p : Program) (e : Env) (s : State) (m : MethodId) (args : Array Value) (below : List Frame) (meth : Method) (c : Code) (A : Nat → Prop) (Q : State → Prop),
      p.tables.exec = Jvm.exec → c.code = cc → c.maxLocals = maxL → s.vm.findClass y.cls = some m.cls → (∀ w ∈ ws, w.before args s = true) → (∀ q : Nat, s.heap.size ≤ q → A q) → va_K D vwCl tys s → gE X A s s.heap → gN s → c.exceptionTable.toList = tableOf hh → ∀ H : Heap, va_P D vwCl W0 H → va_D A W0 → va_S A s.heap H [] →
      ∀ ls : Array Slot, lv_has ls maxL (lv_args 0 av) →
      (∀ {H : Heap} {locs : List Loc} {pc : Nat} {ls : Array Slot} (r : Int32) (u : S), post r u → va_P D vwCl (W1 u) H → va_D A (W1 u) → va_S A s.heap H locs → decode cc pc = .ok (.ireturn, 1) → W p l e rm s m args below meth c H locs mc ms Q (F0 m pc ls [.int r])) →
      W p l e rm s m args below meth c H [] 0 0 Q (F0 m 0 ls [])) :
    Met l y ws rm (gPL D X tys sz av W0) (va_Qi post (fun u t => gB D tys (va_A W0 sz) (W1 u) t) (va_A W0 sz)) mc ms (va_A W0 sz) := by
  refine va_MetW (cc := cc) (maxL := maxL) (ret := some .int) (hh := hh) hy hw ?_
  intro p e s m args below meth c s₁ B hml hv
  obtain ⟨rfl, hsz, hP, hK, hD0, hE, hN⟩ := hv
  have hts := atoms_spec (ws := ws) B.pre
  have hown : s.vm.findClass y.cls = some m.cls := findClass_of_methodNamed B.named
  have htab := vx_table (x := y) B (hts _ (by rw [hw]; exact List.mem_cons_self))
  subst hsz
  have hD := hD0.self (sz := s.heap.size)
  have hA : ∀ q : Nat, s.heap.size ≤ q → va_A W0 s.heap.size q := fun q h => Or.inr h
  have hl := lv_entry av (n := maxL) hlen
  rw [lg_entry_eq]
  generalize (lg_sl av ++ List.replicate (maxL - (lg_sl av).length) Slot.unset).toArray = ls at hl ⊢
  refine body p e s m _ below meth c _ _ B.exec B.bytes hml hown hts hA hK hE hN htab _ hP hD va_S.rf ls hl ?_
  intro H locs pc ls r u hp hP hD hS hdg
  exact W.iret B.exec B.bytes B.returns (fun t ht hW => ⟨⟨r, u, rfl, hp, by rw [ht]; exact hP, va_K.moved hW.alike hK, hD⟩, hS.F ht⟩) hS.2.2 hdg
end GOL
