/-! the JDK's text builder: a method's start and end where cells are made -/
section GOM
variable {l : Launch} {y : MethodName} {ws ws' : List Cond} {rm : Room} {D : va_G} {X : gX} {tys : List (ClassId × FieldType)} {sz : Nat} {av : List Value} {W0 : va_W} {S : Type} {cc : ByteArray} {maxL mc ms : Nat}
theorem g_ofMv {W1 : S → va_W} {post : S → Prop} (hy : plainFor y = true) (hlen : (lg_sl av).length ≤ maxL) (hw : ws = Cond.code y cc maxL none :: ws')
    (body : ∀ (p : Program) (e : Env) (s : State) (m : MethodId) (args : Array Value) (below : List Frame) (meth : Method) (c : Code) (A : Nat → Prop) (Q : State → Prop),
      p.tables.exec = Jvm.exec → c.code = cc → c.maxLocals = maxL → s.vm.findClass y.cls = some m.cls → (∀ w ∈ ws, w.before args s = true) → meth.name = y.name → (∀ q : Nat, s.heap.size ≤ q → A q) → va_K D vwCl tys s → gE X A s s.heap → ∀ H : Heap, va_P D vwCl W0 H → va_D A W0 → va_S A s.heap H [] →
      ∀ ls : Array Slot, lv_has ls maxL (lv_args 0 av) →
      (∀ {H : Heap} {locs : List Loc} {pc : Nat} {ls : Array Slot} {k n : Nat} (u : S), k ≤ mc → n ≤ ms → post u → va_P D vwCl (W1 u) H → va_D A (W1 u) → va_S A s.heap H locs → decode cc pc = .ok (.return_, 1) → W p l e rm s m args below meth c H locs k n Q (F0 m pc ls [])) →
      W p l e rm s m args below meth c H [] 0 0 Q (F0 m 0 ls [])) :
    Met l y ws rm (gP D X tys sz av W0) (va_Qv post (fun u t => gB D tys (va_A W0 sz) (W1 u) t) (va_A W0 sz)) mc ms (va_A W0 sz) := by
  refine g_MetF (cc := cc) (maxL := maxL) (ret := none) hy hw ?_
  intro p e s m args below meth c s₁ B hml hv
  obtain ⟨rfl, hsz, hP, hK, hD0, hE⟩ := hv
  have hts := atoms_spec (ws := ws) B.pre
  have hown : s.vm.findClass y.cls = some m.cls := findClass_of_methodNamed B.named
  subst hsz
  have hD := hD0.self (sz := s.heap.size)
  have hA : ∀ q : Nat, s.heap.size ≤ q → va_A W0 s.heap.size q := fun q h => Or.inr h
  have hl := lv_entry av (n := maxL) hlen
  rw [lg_entry_eq]
  generalize (lg_sl av ++ List.replicate (maxL - (lg_sl av).length) Slot.unset).toArray = ls at hl ⊢
  refine body p e s m _ below meth c _ _ B.exec B.bytes hml hown hts (name_of_methodNamed B.named B.method).1 hA hK hE _ hP hD va_S.rf ls hl ?_
  intro H locs pc ls k n u hk hn hp hP hD hS hdg
  exact W.widen hk hn (W.vret B.exec B.bytes B.returns (fun t ht hW => ⟨⟨u, rfl, hp, by rw [ht]; exact hP, va_K.moved hW.alike hK, hD⟩, hS.F ht⟩) hS.2.2 hdg)
theorem g_ofMi {W1 : S → va_W} {post : Int32 → S → Prop} (hy : plainFor y = true) (hlen : (lg_sl av).length ≤ maxL) (hw : ws = Cond.code y cc maxL (some .int) :: ws')
    (body : ∀ (p : Program) (e : Env) (s : State) (m : MethodId) (args : Array Value) (below : List Frame) (meth : Method) (c : Code) (A : Nat → Prop) (Q : State → Prop),
      p.tables.exec = Jvm.exec → c.code = cc → c.maxLocals = maxL → s.vm.findClass y.cls = some m.cls → (∀ w ∈ ws, w.before args s = true) → meth.name = y.name → (∀ q : Nat, s.heap.size ≤ q → A q) → va_K D vwCl tys s → gE X A s s.heap → ∀ H : Heap, va_P D vwCl W0 H → va_D A W0 → va_S A s.heap H [] →
      ∀ ls : Array Slot, lv_has ls maxL (lv_args 0 av) →
      (∀ {H : Heap} {locs : List Loc} {pc : Nat} {ls : Array Slot} {k n : Nat} (r : Int32) (u : S), k ≤ mc → n ≤ ms → post r u → va_P D vwCl (W1 u) H → va_D A (W1 u) → va_S A s.heap H locs → decode cc pc = .ok (.ireturn, 1) → W p l e rm s m args below meth c H locs k n Q (F0 m pc ls [.int r])) →
      W p l e rm s m args below meth c H [] 0 0 Q (F0 m 0 ls [])) :
    Met l y ws rm (gP D X tys sz av W0) (va_Qi post (fun u t => gB D tys (va_A W0 sz) (W1 u) t) (va_A W0 sz)) mc ms (va_A W0 sz) := by
  refine g_MetF (cc := cc) (maxL := maxL) (ret := some .int) hy hw ?_
  intro p e s m args below meth c s₁ B hml hv
  obtain ⟨rfl, hsz, hP, hK, hD0, hE⟩ := hv
  have hts := atoms_spec (ws := ws) B.pre
  have hown : s.vm.findClass y.cls = some m.cls := findClass_of_methodNamed B.named
  subst hsz
  have hD := hD0.self (sz := s.heap.size)
  have hA : ∀ q : Nat, s.heap.size ≤ q → va_A W0 s.heap.size q := fun q h => Or.inr h
  have hl := lv_entry av (n := maxL) hlen
  rw [lg_entry_eq]
  generalize (lg_sl av ++ List.replicate (maxL - (lg_sl av).length) Slot.unset).toArray = ls at hl ⊢
  refine body p e s m _ below meth c _ _ B.exec B.bytes hml hown hts (name_of_methodNamed B.named B.method).1 hA hK hE _ hP hD va_S.rf ls hl ?_
  intro H locs pc ls k n r u hk hn hp hP hD hS hdg
  exact W.widen hk hn (W.iret B.exec B.bytes B.returns (fun t ht hW => ⟨⟨r, u, rfl, hp, by rw [ht]; exact hP, va_K.moved hW.alike hK, hD⟩, hS.F ht⟩) hS.2.2 hdg)
theorem g_ofMr {W1 : S → Nat → va_W} {post : S → Prop} {rt : FieldType} (hy : plainFor y = true) (hlen : (lg_sl av).length ≤ maxL) (hw : ws = Cond.code y cc maxL (some rt) :: ws') (hrt : (∃ n, rt = .object n) ∨ ∃ t, rt = .array t)
    (body : ∀ (p : Program) (e : Env) (s : State) (m : MethodId) (args : Array Value) (below : List Frame) (meth : Method) (c : Code) (A : Nat → Prop) (Q : State → Prop),
      p.tables.exec = Jvm.exec → c.code = cc → c.maxLocals = maxL → s.vm.findClass y.cls = some m.cls → (∀ w ∈ ws, w.before args s = true) → meth.name = y.name → (∀ q : Nat, s.heap.size ≤ q → A q) → va_K D vwCl tys s → gE X A s s.heap → ∀ H : Heap, va_P D vwCl W0 H → va_D A W0 → va_S A s.heap H [] →
      ∀ ls : Array Slot, lv_has ls maxL (lv_args 0 av) →
      (∀ {H : Heap} {locs : List Loc} {pc : Nat} {ls : Array Slot} {k n : Nat} (a : Nat) (u : S), k ≤ mc → n ≤ ms → post u → va_P D vwCl (W1 u a) H → va_D A (W1 u a) → va_S A s.heap H locs → decode cc pc = .ok (.areturn, 1) → W p l e rm s m args below meth c H locs k n Q (F0 m pc ls [.ref a])) →
      W p l e rm s m args below meth c H [] 0 0 Q (F0 m 0 ls [])) :
    Met l y ws rm (gP D X tys sz av W0) (va_Qr post (fun u a t => gB D tys (va_A W0 sz) (W1 u a) t) (va_A W0 sz)) mc ms (va_A W0 sz) := by
  refine g_MetF (cc := cc) (maxL := maxL) (ret := some rt) hy hw ?_
  intro p e s m args below meth c s₁ B hml hv
  obtain ⟨rfl, hsz, hP, hK, hD0, hE⟩ := hv
  have hts := atoms_spec (ws := ws) B.pre
  have hown : s.vm.findClass y.cls = some m.cls := findClass_of_methodNamed B.named
  subst hsz
  have hD := hD0.self (sz := s.heap.size)
  have hA : ∀ q : Nat, s.heap.size ≤ q → va_A W0 s.heap.size q := fun q h => Or.inr h
  have hl := lv_entry av (n := maxL) hlen
  rw [lg_entry_eq]
  generalize (lg_sl av ++ List.replicate (maxL - (lg_sl av).length) Slot.unset).toArray = ls at hl ⊢
  refine body p e s m _ below meth c _ _ B.exec B.bytes hml hown hts (name_of_methodNamed B.named B.method).1 hA hK hE _ hP hD va_S.rf ls hl ?_
  intro H locs pc ls k n a u hk hn hp hP hD hS hdg
  exact W.widen hk hn (W.aret B.exec B.bytes B.returns hrt (Or.inr ⟨a, rfl⟩) (fun t ht hW => ⟨⟨u, a, rfl, hp, by rw [ht]; exact hP, va_K.moved hW.alike hK, hD⟩, hS.F ht⟩) hS.2.2 hdg)
end GOM
abbrev gF (f : Nat → Int32) : Prop := ∀ j, fits .byte (.int (f j)) = true
theorem gF_upd {f : Nat → Int32} {k : Nat} {x : Int32} (h : gF f) : gF (upd f k (vp_nar .byte x)) := by
  intro j
  unfold upd
  split
  · rw [vp_nar_byte]; exact pk_fb x
  · exact h j
theorem gF_cpy {f g : Nat → Int32} {sp dp n : Nat} (hf : gF f) (hg : gF g) : gF (va_cpy f g sp dp n) := sb_fitC hf hg
theorem gF_0 : gF (fun _ => (0 : Int32)) := sb_fit0
theorem sh0 (x : Int32) : x <<< ((0 : Int32) &&& 31) = x := sb_shl0 x
theorem sr0 (x : Int32) : x >>> ((0 : Int32) &&& 31) = x := sb_shr0 x
/-! a method that answers with a cell that it was given -/
section GOS
variable {l : Launch} {y : MethodName} {ws ws' : List Cond} {rm : Room} {D : va_G} {X : gX} {tys : List (ClassId × FieldType)} {sz : Nat} {av : List Value} {W0 : va_W} {S : Type} {cc : ByteArray} {maxL mc ms : Nat}
theorem g_ofMs {W1 : S → va_W} {post : S → Prop} {rt : FieldType} (b : Nat) (hy : plainFor y = true) (hlen : (lg_sl av).length ≤ maxL) (hw : ws = Cond.code y cc maxL (some rt) :: ws') (hrt : (∃ n, rt = .object n) ∨ ∃ t, rt = .array t)
    (body : ∀ (p : Program) (e : Env) (s : State) (m : MethodId) (args : Array Value) (below : List Frame) (meth : Method) (c : Code) (A : Nat → Prop) (Q : State → Prop),
      p.tables.exec = Jvm.exec → c.code = cc → c.maxLocals = maxL → s.vm.findClass y.cls = some m.cls → (∀ w ∈ ws, w.before args s = true) → meth.name = y.name → (∀ q : Nat, s.heap.size ≤ q → A q) → va_K D vwCl tys s → gE X A s s.heap → ∀ H : Heap, va_P D vwCl W0 H → va_D A W0 → va_S A s.heap H [] →
      ∀ ls : Array Slot, lv_has ls maxL (lv_args 0 av) →
      (∀ {H : Heap} {locs : List Loc} {pc : Nat} {ls : Array Slot} {k n : Nat} (u : S), k ≤ mc → n ≤ ms → post u → va_P D vwCl (W1 u) H → va_D A (W1 u) → va_S A s.heap H locs → decode cc pc = .ok (.areturn, 1) → W p l e rm s m args below meth c H locs k n Q (F0 m pc ls [.ref b])) →
      W p l e rm s m args below meth c H [] 0 0 Q (F0 m 0 ls [])) :
    Met l y ws rm (gP D X tys sz av W0) (va_Qr post (fun u a t => a = b ∧ gB D tys (va_A W0 sz) (W1 u) t) (va_A W0 sz)) mc ms (va_A W0 sz) := by
  refine g_MetF (cc := cc) (maxL := maxL) (ret := some rt) hy hw ?_
  intro p e s m args below meth c s₁ B hml hv
  obtain ⟨rfl, hsz, hP, hK, hD0, hE⟩ := hv
  have hts := atoms_spec (ws := ws) B.pre
  have hown : s.vm.findClass y.cls = some m.cls := findClass_of_methodNamed B.named
  subst hsz
  have hD := hD0.self (sz := s.heap.size)
  have hA : ∀ q : Nat, s.heap.size ≤ q → va_A W0 s.heap.size q := fun q h => Or.inr h
  have hl := lv_entry av (n := maxL) hlen
  rw [lg_entry_eq]
  generalize (lg_sl av ++ List.replicate (maxL - (lg_sl av).length) Slot.unset).toArray = ls at hl ⊢
  refine body p e s m _ below meth c _ _ B.exec B.bytes hml hown hts (name_of_methodNamed B.named B.method).1 hA hK hE _ hP hD va_S.rf ls hl ?_
  intro H locs pc ls k n u hk hn hp hP hD hS hdg
  exact W.widen hk hn (W.aret B.exec B.bytes B.returns hrt (Or.inr ⟨b, rfl⟩) (fun t ht hW => ⟨⟨u, b, rfl, hp, rfl, by rw [ht]; exact hP, va_K.moved hW.alike hK, hD⟩, hS.F ht⟩) hS.2.2 hdg)
end GOS
/-- the builder's new capacity -/
def capN (q m : Nat) : Nat := m + (if q - m < m + 2 then m + 2 else q - m)
theorem capN_ok {q m : Nat} (h : m < q) (hq : q ≤ 400) : q ≤ capN q m ∧ m < capN q m ∧ capN q m ≤ 802 := by
  unfold capN
  split <;> omega
theorem sub_le0 {q m : Nat} (hq : q < 2 ^ 30) (hm : m < 2 ^ 30) : nI q - nI m ≤ 0 ↔ q ≤ m := by
  rw [Int32.le_iff_toInt_le, pk_sub_toInt hq hm, Int32.toInt_zero]
  omega
theorem nI_big {a : Nat} {x : Int32} (b : Nat) (hx : x = nI b) (h : a < b) (hb : b < 2 ^ 31) : ¬ x < nI a := by
  subst hx
  exact nI_nlt (by omega) hb
theorem nI_ne {a b : Nat} (ha : a < 2 ^ 31) (hb : b < 2 ^ 31) (h : a ≠ b) : ¬ nI a = nI b := fun z => h ((nI_eq ha hb).mp z)
theorem ite_nI {a b : Nat} (ha : a < 2 ^ 31) (hb : b < 2 ^ 31) : (if nI a < nI b then nI b else nI a) = nI (if a < b then b else a) := by
  by_cases h : a < b
  · rw [if_pos h, if_pos ((nI_ltI ha hb).mpr h)]
  · rw [if_neg h, if_neg (fun z => h ((nI_ltI ha hb).mp z))]
theorem ite_nI2 {a b : Nat} (ha : a < 2 ^ 31) (hb : b < 2 ^ 31) (h : b ≤ a) : (if nI a < nI b then nI a else nI b) = nI b := if_neg (nI_nlt h (by omega))
theorem ite_nI3 {a b : Nat} (hb : b < 2 ^ 31) (h : a < b) : (if nI a < nI b then nI a else nI b) = nI a := if_pos (nI_lt h hb)
theorem c8 : ∀ c, c < 128 → (nI c).toInt8.toInt32 = nI c ∧ vp_nar .byte (nI c) = nI c ∧ fits .byte (.int (nI c)) = true ∧ ¬ nI 255 < nI c := by decide +kernel
theorem dg9 : ∀ d, d < 10 → ¬ (-(nI d)) ≤ (-10 : Int32) ∧ (-100 : Int32) < (-(nI d)) ∧ (-9 : Int32) ≤ (-(nI d)) ∧ (-(-(nI d))) = nI d ∧ gDg (nI d).toNatClampNeg = nI (48 + d) ∧ vp_in (nI d) 100 := by
  unfold vp_in
  decide +kernel
theorem fitcell {cA : ClassId} {n : Nat} {f : Nat → Int32} (hf : gF f) : ∀ (i : Nat) (v : Value), (vp_cell cA (n, .inl f)).slots[i]? = some v → fits .byte v = true := by
  intro i v h
  have h2 : i < n := by
    rcases Nat.lt_or_ge i n with q | q
    · exact q
    · rw [Array.getElem?_eq_none (by simpa [vp_cell, arrV] using q)] at h
      cases h
  simp [vp_cell, arrV, h2] at h
  rw [← h]
  exact hf i
/-- what a builder holds -/
def sbT (t : List Nat) (m : Nat) (f : Nat → Int32) : Prop := t.length ≤ m ∧ m ≤ 802 ∧ gF f ∧ ∀ j, j < t.length → f j = nI (t.getD j 0)
