/-! the drawn text, once it lies in the world, as a text outside of it -/
theorem gSt_field {args : Array Value} {s : State} {D : va_G} {H : Heap} {q k : Nat} {fs : List Value} {cell : Cell} {B : Nat → Prop} (hts : ∀ w ∈ lw_tbl2, w.before args s = true) (hK : u_Kn s RJ0 TJ0 4 (D.1 6) (D.2 6)) (hk : k < 4) (h1 : H[q]? = some cell) (h2 : cell.vm = .none) (h3 : cell.slots[D.2 6 k]? = some (vp_V fs k)) (hB : ¬ B q) :
    va_OF (TJ0 k).1 (TJ0 k).2.1 (TJ0 k).2.2.1 (vp_V fs k) q B s H := by
  obtain ⟨cf, kf, fi, fd, hf, hslot⟩ := hK.1 k hk
  have hst : fd.isStatic = false := by
    rcases u_lays (C := RJ0) (T := TJ0) (N := 4) hts inJ0 hk with h | h
    · obtain ⟨c, k1, c', k', i, f, -, -, e, e2, -⟩ := Cond.lays_spec h
      rw [hf] at e
      cases e
      exact e2
    · obtain ⟨c, k1, c', k', i, f, -, -, e, e2, -⟩ := Cond.laysFinal_spec h
      rw [hf] at e
      cases e
      exact e2
  refine ⟨cf, kf, fi, fd, cell, hf, hst, h1, (fun e => by rw [h2] at e; cases e), ?_, hB⟩
  rw [hslot]
  exact h3
theorem gSt_of {args : Array Value} {s : State} {D : va_G} {H : Heap} {ws wc : va_W} {isC : List Nat} {cI cZ cB cG : ClassId} {A : Nat → Prop} {i j qs qv n : Nat} {f : Nat → Int32} (hts : ∀ w ∈ lw_tbl2, w.before args s = true) (hK : va_K D vwCl (gT cI cZ cB cG) s) (hP : va_P D vwCl ws H) (hD : va_D A ws)
    (hi : ws[i]? = some (qs, .inr (6, [.ref qv, .int (0 : Int32), .int (0 : Int32), .int (0 : Int32)]))) (hj : ws[j]? = some (qv, .inl (cB, n, .inl f))) (hC : isC.map (fun i => ws[i]?) = wc.map some) (hin : i ∉ isC) (hjn : j ∉ isC) : gSt qs qv n f (va_A wc H.size) s H := by
  have nA : ∀ (k q : Nat) (e : va_E), ws[k]? = some (q, e) → k ∉ isC → q < H.size → ¬ va_A wc H.size q := by
    intro k q e hk hkn hq h
    rcases h with ⟨r, e', h⟩ | h
    · have h3 : (isC.map (fun i => ws[i]?))[r]? = some (some (q, e')) := by rw [hC, List.getElem?_map, h]; rfl
      rw [List.getElem?_map] at h3
      cases hr : isC[r]? with
      | none => rw [hr] at h3; cases h3
      | some i' =>
        rw [hr] at h3
        have h4 : ws[i']? = some (q, e') := Option.some.inj h3
        have := hD.1 k i' _ _ hk h4 rfl
        subst this
        exact hkn (List.mem_of_getElem? hr)
    · omega
  obtain ⟨r, hr, cell, g1, g2, g3, g4⟩ := hP i _ hi
  obtain rfl : ((RJ0, TJ0, 4) : vw_C) = r := Option.some.inj (show some ((RJ0, TJ0, 4) : vw_C) = some r from hr)
  have hk := hK.1 6 (RJ0, TJ0, 4) rfl
  have hqs : qs < H.size := (Array.getElem?_eq_some_iff.mp g1).1
  have hv : H[qv]? = some (vp_cell cB (n, .inl f)) := hP j _ hj
  have hqv : qv < H.size := (Array.getElem?_eq_some_iff.mp hv).1
  have n1 := nA i qs _ hi hin hqs
  have n2 := nA j qv _ hj hjn hqv
  refine ⟨⟨cell, g1, by rw [g3]; rfl, by rw [g2]; exact hk.2.1, n1⟩, gSt_field (k := 1) hts hk (by decide) g1 g3 (g4 1 (by decide)) n1, gSt_field (k := 0) hts hk (by decide) g1 g3 (g4 0 (by decide)) n1, ?_⟩
  have hsz : (vp_cell cB (n, .inl f)).slots.size = n := arrV_size _ _ _
  refine ⟨_, hv, (hK.2 2 _ rfl).1 n (fun j => .int (f j)), (fun q => by cases q), by rw [hsz]; exact Nat.le_refl _, by rw [hsz], fun j hj => ?_, n2⟩
  show (arrV _ _ _).slots[_]? = _
  rw [arrV_read _ _ hj]
