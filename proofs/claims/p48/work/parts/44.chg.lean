/-! setOwner, setCall, exchange: what they make of a game -/
theorem lA_set {l : List (Nat × Nat)} {p k : Nat} {q : Nat × Nat} (h : p < l.length) : lA (l.set p q) k = (if k = p then q.1 else lA l k) ∧ lB (l.set p q) k = (if k = p then q.2 else lB l k) := by
  unfold lA lB
  rw [List.getD_eq_getElem?_getD, List.getD_eq_getElem?_getD, List.getElem?_set]
  by_cases z : p = k
  · subst z
    rw [if_pos rfl, if_pos h, if_pos rfl, if_pos rfl]
    exact ⟨rfl, rfl⟩
  · have z2 : ¬ k = p := fun e => z e.symm
    rw [if_neg z, if_neg z2, if_neg z2]
    exact ⟨rfl, rfl⟩
theorem rp_owner {pl : List (Nat × Nat)} {p o : Nat} {places odd : Int32} {calls : Nat → Int32} (hp : RP pl places odd calls) (hn : pl.length ≤ 20) (hpn : p < pl.length) (ho : o < 2) (h2 : lA pl p < 2) :
    (nI o = nI (lA pl p) → RP (pl.set p (o, lB pl p)) places odd calls) ∧ (¬ nI o = nI (lA pl p) → RP (pl.set p (o, lB pl p)) places (odd ^^^ ((1 : Int32) <<< (nI p &&& 31))) calls) := by
  have hcalls : ∀ u, u < (pl.set p (o, lB pl p)).length → calls u = nI (lB (pl.set p (o, lB pl p)) u) := by
    intro u hu
    rw [List.length_set] at hu
    rw [(lA_set hpn).2, hp.2.2 u hu]
    by_cases z : u = p
    · rw [if_pos z, z]
    · rw [if_neg z]
  refine ⟨fun e => ⟨by rw [List.length_set]; exact hp.1, fun u => ?_, hcalls⟩, fun e => ⟨by rw [List.length_set]; exact hp.1, fun u => ?_, hcalls⟩⟩
  · have e := (nI_eq (by omega) (by omega)).mp e
    rw [hp.2.1 u, List.length_set, (lA_set hpn).1]
    by_cases z : u = p
    · rw [if_pos z, z, e]
    · rw [if_neg z]
  · rw [b_xor, b_one (by omega), List.length_set, (lA_set hpn).1]
    have hu := hp.2.1 u
    by_cases z : u = p
    · subst z
      have ne : o ≠ lA pl u := fun y => e (by rw [y])
      rw [if_pos rfl, decide_eq_true rfl]
      cases hb : bt odd u
      · rw [hb] at hu
        have : ¬ lA pl u = 1 := fun y => by have := hu.mpr ⟨hpn, y⟩; cases this
        exact ⟨fun _ => ⟨hpn, by show o = 1; omega⟩, fun _ => rfl⟩
      · rw [hb] at hu
        have := (hu.mp rfl).2
        constructor
        · intro y; cases y
        · rintro ⟨_, y⟩
          have y : o = 1 := y
          omega
    · rw [if_neg z, decide_eq_false z, Bool.xor_false]
      exact hu
theorem rp_call {pl : List (Nat × Nat)} {p c : Nat} {places odd : Int32} {calls : Nat → Int32} (hp : RP pl places odd calls) (hpn : p < pl.length) : RP (pl.set p (lA pl p, c)) places odd (upd calls p (nI c)) := by
  refine ⟨by rw [List.length_set]; exact hp.1, fun u => ?_, fun u hu => ?_⟩
  · rw [hp.2.1 u, List.length_set, (lA_set hpn).1]
    by_cases z : u = p
    · rw [if_pos z, z]
    · rw [if_neg z]
  · rw [List.length_set] at hu
    rw [(lA_set hpn).2, upd_get]
    by_cases z : u = p
    · rw [if_pos z, if_pos z]
    · rw [if_neg z, if_neg z]; exact hp.2.2 u hu
theorem rp_exch {pl : List (Nat × Nat)} {places odd : Int32} {calls c' : Nat → Int32} (hp : RP pl places odd calls) (hn : pl.length ≤ 20) (ho : ∀ u, lA pl u < 2) (hc : ∀ u, u < pl.length → c' u = nI (lB pl u + 1)) : RP (pl.map exP) places (odd ^^^ (((1 : Int32) <<< (places &&& 31)) - 1)) c' := by
  obtain ⟨rfl, h1, h2⟩ := hp
  refine ⟨by rw [List.length_map], fun u => ?_, fun u hu => ?_⟩
  · rw [b_xor, b_all hn, List.length_map]
    have hu := h1 u
    by_cases z : u < pl.length
    · rw [decide_eq_true z, (lMapE z).1]
      have := ho u
      cases hb : bt odd u
      · rw [hb] at hu
        have : ¬ lA pl u = 1 := fun y => by have := hu.mpr ⟨z, y⟩; cases this
        exact ⟨fun _ => ⟨z, by omega⟩, fun _ => rfl⟩
      · rw [hb] at hu
        have := (hu.mp rfl).2
        constructor
        · intro y; cases y
        · rintro ⟨_, y⟩; omega
    · rw [decide_eq_false z, Bool.xor_false]
      exact ⟨fun y => absurd (hu.mp y).1 z, fun y => absurd y.1 z⟩
  · rw [List.length_map] at hu
    rw [hc u hu, (lMapE hu).2]
theorem x5_exchLoop {pl : List (Nat × Nat)} {calls : Nat → Int32} {K : Int32 → (Nat → Int32) → Prop} (hn : pl.length ≤ 20) (hc : ∀ u, u < pl.length → calls u = nI (lB pl u))
    (h : ∀ v c', (∀ u, u < pl.length → c' u = nI (lB pl u + 1)) → K v c') : ∃ n, fx2 (F_X5_exchange_52 (nI pl.length) K) n (0 : Int32) calls := by
  refine up2i pl.length (by omega) (fun k c => ∀ u, u < pl.length → c u = nI (if u < k then lB pl u + 1 else lB pl u)) 0 _ (Nat.zero_le _) (fun u hu => by rw [if_neg (Nat.not_lt_zero _)]; exact hc u hu) (fun rec c hI => ?_) (fun rec k c hk hI go => ?_)
  · unfold F_X5_exchange_52
    exact lpE (h _ _ (fun u hu => by rw [hI u hu, if_pos hu]))
  · unfold F_X5_exchange_52
    have e := hI k hk
    rw [if_neg (Nat.lt_irrefl _)] at e
    rw [nI_clamp (show k < 2 ^ 31 by omega), e, nI_1 (lB pl k)]
    refine lpS hk (by omega) ⟨vp_in_nI (by omega) (by omega), vp_in_nI (by omega) (by omega), go _ (fun u hu => ?_)⟩
    rw [upd_get]
    by_cases z : u = k
    · rw [if_pos z, if_pos (by omega), z]
    · rw [if_neg z, hI u hu]
      by_cases y : u < k
      · have y2 : u < k + 1 := by omega
        rw [if_pos y, if_pos y2]
      · have y2 : ¬ u < k + 1 := by omega
        rw [if_neg y, if_neg y2]
theorem rm_owner {pl : List (Nat × Nat)} {p o : Nat} {now : Nat → Int32} (hp : RMp pl now) (hn : pl.length ≤ 20) (hpn : p < pl.length) : RMp (pl.set p (o, lB pl p)) (upd now (4 + p) (nI o)) := by
  refine ⟨by rw [List.length_set, pk_un (by omega)]; exact hp.1, fun u hu => ?_⟩
  rw [List.length_set] at hu
  have z3 : ¬ 24 + u = 4 + p := by omega
  simp only [upd_get, if_neg z3]
  rw [(lA_set hpn).1, (lA_set hpn).2]
  obtain ⟨a, b⟩ := hp.2 u hu
  by_cases z : u = p
  · subst z
    rw [if_pos rfl, if_pos rfl, if_pos rfl]
    exact ⟨rfl, b⟩
  · have z2 : ¬ 4 + u = 4 + p := by omega
    rw [if_neg z2, if_neg z, if_neg z]
    exact ⟨a, b⟩
theorem rm_call {pl : List (Nat × Nat)} {p c : Nat} {now : Nat → Int32} (hp : RMp pl now) (hn : pl.length ≤ 20) (hpn : p < pl.length) : RMp (pl.set p (lA pl p, c)) (upd now (24 + p) (nI c)) := by
  refine ⟨by rw [List.length_set, pk_un (by omega)]; exact hp.1, fun u hu => ?_⟩
  rw [List.length_set] at hu
  have z3 : ¬ 4 + u = 24 + p := by omega
  simp only [upd_get, if_neg z3]
  rw [(lA_set hpn).1, (lA_set hpn).2]
  obtain ⟨a, b⟩ := hp.2 u hu
  by_cases z : u = p
  · subst z
    rw [if_pos rfl, if_pos rfl, if_pos rfl]
    exact ⟨a, rfl⟩
  · have z2 : ¬ 24 + u = 24 + p := by omega
    rw [if_neg z2, if_neg z, if_neg z]
    exact ⟨a, b⟩
/-- a row written outside the moves keeps them; outside the token's part keeps that -/
theorem RMv_upd {mv : List (Nat × Nat)} {now : Nat → Int32} {i : Nat} {x : Int32} (h : RMv mv now) (hm : mv.length ≤ 61) (h1 : i ≠ 1) (h2 : i < 44 ∨ 166 ≤ i) : RMv mv (upd now i x) :=
  RMv_of hm h (pk_un (Ne.symm h1)) (fun j a b => pk_un (by omega))
theorem RMt_upd {tk : Nat} {md : Int32} {hd now : Nat → Int32} {i : Nat} {x : Int32} (h : RMt tk md hd now) (h1 : i ≠ 2) (h2 : i ≠ 3) (h3 : i < 166) : RMt tk md hd (upd now i x) :=
  RMt_of h (pk_un (Ne.symm h1)) (pk_un (Ne.symm h2)) (fun j a b => pk_un (by omega))
