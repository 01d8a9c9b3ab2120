/-! what pulling, staying, coming back keep -/
section SETS8
variable {ow : Nat → Nat} {E : Nat → Nat → Prop}
/-- one may stay out of a set for ever just where the other can't pull to it -/
theorem s_dual {n i : Nat} {T : Nat → Prop} (hi : i < 2) (ho : ∀ v, ow v < 2) (hE : ∀ v w, E v w → v < n ∧ w < n) : ∀ (k u : Nat), u < n → (sIter ow E (1 - i) (fun u => u < n ∧ ¬ T u) k u ↔ ¬ pIter ow E i T k u) := by
  intro k
  induction k with
  | zero => intro u hu; exact ⟨fun h => h.2, fun h => ⟨hu, h⟩⟩
  | succ k ih =>
    intro u hu
    have hou := ho u
    constructor
    · rintro ⟨h1, h2, h3⟩ h
      rcases h with h | h
      · exact (ih u hu).mp h1 h
      · rcases h with ⟨q, w, e, hw⟩ | ⟨q, ⟨w0, e0⟩, ha⟩
        · exact (ih w (hE _ _ e).2).mp (h3 (by omega) w e) hw
        · rcases h2 (by omega) with ⟨w, e, z⟩ | z
          · exact (ih w (hE _ _ e).2).mp z (ha w e)
          · exact z ⟨w0, e0⟩
    · intro h
      refine ⟨(ih u hu).mpr (fun z => h (Or.inl z)), fun q => ?_, fun q w e => ?_⟩
      · by_cases z : ∃ w, E u w
        · left
          by_cases y : ∃ w, E u w ∧ sIter ow E (1 - i) (fun u => u < n ∧ ¬ T u) k w
          · exact y
          · refine absurd (Or.inr (Or.inr ⟨by omega, z, fun w e => ?_⟩)) h
            by_cases x : pIter ow E i T k w
            · exact x
            · exact absurd ⟨w, e, (ih w (hE _ _ e).2).mpr x⟩ y
        · exact Or.inr z
      · refine (ih w (hE _ _ e).2).mpr (fun z => h (Or.inr (Or.inl ⟨by omega, w, e, z⟩)))
theorem p_idem {i : Nat} {T : Nat → Prop} {n : Nat} (hE : ∀ v w, E v w → v < n ∧ w < n) (hT : ∀ v, T v → v < n) : ∀ (k u : Nat), pIter ow E i (fun u => ∃ k, pIter ow E i T k u) k u → ∃ k, pIter ow E i T k u := by
  intro k
  induction k with
  | zero => intro u h; exact h
  | succ k ih =>
    intro u h
    rcases h with h | h
    · exact ih u h
    · refine ⟨n + 1, Or.inr (pre_mono (fun w hw => ?_) h)⟩
      obtain ⟨j, hj⟩ := ih w hw
      exact pIter_end hE hT hj
theorem s_idem {i : Nat} {S : Nat → Prop} {n : Nat} (hE : ∀ v w, E v w → v < n ∧ w < n) (hS : ∀ v, S v → v < n) : ∀ (k u : Nat), (∀ k, sIter ow E i S k u) → sIter ow E i (fun u => ∀ k, sIter ow E i S k u) k u := by
  -- the limit is reached: it stays in itself
  have hd : ∀ k v, sIter ow E i S (k + 1) v → sIter ow E i S k v := fun k v h => h.1
  obtain ⟨j, hj⟩ : ∃ j, ∀ v, sIter ow E i S j v → sIter ow E i S (j + 1) v := by
    have hn : ∀ k v, sIter ow E i S k v → v < n := by
      intro k
      induction k with
      | zero => exact hS
      | succ k ih => exact fun v h => ih v h.1
    rcases chain_down (n := n) (sIter ow E i S) hn hd (n + 1) with ⟨j, -, hj⟩ | h
    · exact ⟨j, hj⟩
    · omega
  have lim : ∀ v, sIter ow E i S j v ↔ ∀ k, sIter ow E i S k v := down_lim hd (sIter_stab hj)
  intro k
  induction k with
  | zero => intro u h; exact h
  | succ k ih =>
    intro u h
    refine ⟨ih u h, stay_mono (fun w hw => ih w hw) ?_⟩
    exact stay_mono (fun w hw => (lim w).mp hw) (h (j + 1)).2
theorem c_in_p {i n : Nat} {S : Nat → Prop} {u : Nat} (h : ∀ k, cIter ow E i n S k u) : ∃ k, pIter ow E i S k u := by
  obtain ⟨j, hj⟩ := h 1
  exact ⟨j, pIter_mono (fun v hv => hv.1) j u hj⟩
/-- the places from which the other can't force an end: there one comes back for ever -/
theorem c_all {n i : Nat} (hi : i < 2) (ho : ∀ v, ow v < 2) (hE : ∀ v w, E v w → v < n ∧ w < n) {A T : Nat → Prop} (hA : ∀ v, A v ↔ v < n) (hT : ∀ v, T v ↔ v < n ∧ ¬ ∃ w, E v w) {u : Nat} (hu : u < n) (h : ¬ ∃ k, pIter ow E (1 - i) T k u) : ∀ k, cIter ow E i n A k u := by
  have key : ∀ k u, u < n → (¬ ∃ k, pIter ow E (1 - i) T k u) → cIter ow E i n A k u := by
    intro k
    induction k with
    | zero => exact fun u hu _ => hu
    | succ k ih =>
      intro u hu h
      have hou := ho u
      refine ⟨0, (hA u).mpr hu, ?_⟩
      have hx : ∃ w, E u w := by
        by_cases q : ∃ w, E u w
        · exact q
        · exact absurd ⟨0, (hT u).mpr ⟨hu, q⟩⟩ h
      by_cases q : ow u = i
      · left
        refine ⟨q, ?_⟩
        by_cases z : ∃ w, E u w ∧ ¬ ∃ k, pIter ow E (1 - i) T k w
        · obtain ⟨w, e, y⟩ := z
          exact ⟨w, e, ih w (hE _ _ e).2 y⟩
        · exfalso
          refine h ⟨n + 1, Or.inr (Or.inr ⟨by omega, hx, fun w e => ?_⟩)⟩
          by_cases y : ∃ k, pIter ow E (1 - i) T k w
          · obtain ⟨k, y⟩ := y
            exact pIter_end hE (fun v hv => ((hT v).mp hv).1) y
          · exact absurd ⟨w, e, y⟩ z
      · right
        refine ⟨q, hx, fun w e => ih w (hE _ _ e).2 (fun ⟨k, y⟩ => h ⟨k + 1, Or.inr (Or.inl ⟨by omega, w, e, y⟩)⟩)⟩
  exact fun k => key k u hu h
/-- the complement of a pulled set is a trap just where nobody else is stuck in it -/
theorem p_trapc {n i : Nat} {T C : Nat → Prop} (hE : ∀ v w, E v w → v < n ∧ w < n) (hT : ∀ v, T v → v < n) (hC : ∀ v, C v ↔ v < n ∧ ¬ ∃ k, pIter ow E i T k v) : trap ow E i C ↔ ∀ v, C v → ow v ≠ i → ∃ w, E v w := by
  constructor
  · intro h v hv q
    obtain ⟨w, e, -⟩ := (h v hv).2 q
    exact ⟨w, e⟩
  · intro h v hv
    have hv2 := (hC v).mp hv
    refine ⟨fun q w e => (hC w).mpr ⟨(hE _ _ e).2, fun ⟨k, z⟩ => hv2.2 ⟨k + 1, Or.inr (Or.inl ⟨q, w, e, z⟩)⟩⟩, fun q => ?_⟩
    by_cases z : ∃ w, E v w ∧ C w
    · exact z
    · exfalso
      refine hv2.2 ⟨n + 1, Or.inr (Or.inr ⟨q, h v hv q, fun w e => ?_⟩)⟩
      by_cases y : ∃ k, pIter ow E i T k w
      · obtain ⟨k, y⟩ := y
        exact pIter_end hE hT y
      · exact absurd ⟨w, e, (hC w).mpr ⟨(hE _ _ e).2, y⟩⟩ z
theorem p_least {i n : Nat} {T : Nat → Prop} (hE : ∀ v w, E v w → v < n ∧ w < n) (hT : ∀ v, T v → v < n) {u k : Nat} (h : pIter ow E i T k u) : ∃ j, j < n ∧ pIter ow E i T j u ∧ ∀ m, m < j → ¬ pIter ow E i T m u := by
  obtain ⟨j, hj, hm⟩ := pk_least (fun j => pIter ow E i T j u) ⟨k, h⟩
  refine ⟨j, ?_, hj, hm⟩
  -- the chain goes up till it stands still; T holds a place already
  have hup : ∀ k v, pIter ow E i T k v → pIter ow E i T (k + 1) v := fun k v h => Or.inl h
  rcases chain_up (n := n) (fun k v => pIter ow E i T k v) (fun k v h => pIter_n hE hT k v h) hup j with ⟨m, hmj, hst⟩ | q
  · exact absurd (pIter_stab hst j u hj) (hm m hmj)
  · rcases Nat.lt_or_ge j n with z | z
    · exact z
    · exfalso
      have hu := pIter_n hE hT j u hj
      rcases Nat.eq_zero_or_pos j with y | y
      · omega
      · -- one round earlier u is not there, and some place of T is
        have h1 : pNum (fun v => pIter ow E i T (j - 1) v) n < pNum (fun v => pIter ow E i T j v) n := pNum_lt (fun v hv => by
          have := hup (j - 1) v hv
          rwa [show j - 1 + 1 = j by omega] at this) ⟨u, hu, hj, hm (j - 1) (by omega)⟩
        have h2 : pNum (fun v => pIter ow E i T j v) n ≤ n := pCnt_top _ n
        obtain ⟨t, ht⟩ : ∃ t, T t := by
          by_cases x : ∃ t, T t
          · exact x
          · have none : ∀ k v, ¬ pIter ow E i T k v := by
              intro k
              induction k with
              | zero => exact fun v hv => x ⟨v, hv⟩
              | succ k ih =>
                intro v hv
                rcases hv with hv | hv
                · exact ih v hv
                · rcases hv with ⟨-, w, -, hw⟩ | ⟨-, ⟨w, e⟩, ha⟩
                  · exact ih w hw
                  · exact ih w (ha w e)
            exact absurd hj (none j u)
        have h3 : ∀ m, m < j → m + 1 ≤ pNum (fun v => pIter ow E i T m v) n := by
          intro m
          induction m with
          | zero =>
            intro _
            have : pNum (fun _ => False) n < pNum (fun v => pIter ow E i T 0 v) n := pNum_lt (fun v hv => hv.elim) ⟨t, hT t ht, ht, fun q => q⟩
            omega
          | succ m ihm =>
            intro hmj
            have h4 := ihm (by omega)
            by_cases hst : ∀ v, pIter ow E i T (m + 1) v → pIter ow E i T m v
            · exact absurd (pIter_stab hst j u hj) (hm m (by omega))
            · obtain ⟨v, hv⟩ := Classical.not_forall.mp hst
              obtain ⟨hv1, hv2⟩ := Classical.not_imp.mp hv
              have : pNum (fun v => pIter ow E i T m v) n < pNum (fun v => pIter ow E i T (m + 1) v) n := pNum_lt (n := n) (fun v hv => hup m v hv) ⟨v, pIter_n hE hT (m + 1) v hv1, hv1, hv2⟩
              omega
        have h5 := h3 (j - 1) (by omega)
        omega
end SETS8
