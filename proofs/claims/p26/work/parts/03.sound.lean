/-! WHAT THE ABSTRACT THINGS STAND FOR -/
abbrev ab_G : Type := va_G × (Nat → ClassId)
def ab_c (ad : Nat → Nat) : ab_V → Value
  | .inl n => .int (Int32.ofInt n)
  | .inr (.inl r) => va_rf (r.map ad)
  | .inr (.inr L) => .long L
def ab_e (G : ab_G) (ad : Nat → Nat) : ab_C → va_E
  | .inl (ci, fs) => .inr (ci, fs.map (ab_c ad))
  | .inr (.inl (t, n, f)) => .inl (G.2 t, n, .inl (fun j => Int32.ofInt (f j)))
  | .inr (.inr l) => .inl (G.2 3, l.length, .inr (.inr (.inr (.inr (fun j => (l.getD j none).map ad)))))
def ab_cs (G : ab_G) (ad : Nat → Nat) (cs : List ab_C) : va_W := cs.mapIdx (fun k c => (ad k, ab_e G ad c))
def ab_tys (G : ab_G) : List (ClassId × FieldType) := [(G.2 0, .int), (G.2 1, .char), (G.2 2, .boolean), (G.2 3, .object "RootChunks$Row")]
def ab_isN : Jvm.Cond → Bool
  | .fieldLinkNest _ _ _ _ _ _ => true
  | .methodLinkNest _ _ _ _ => true
  | _ => false
def ab_nw : List Jvm.Cond := tables_1.filter ab_isN
def ab_TB : List Jvm.Cond := lw_tbl.filter goodWord
def ab_KK (G : ab_G) (U : State) : Prop := va_K G.1 vwCl (ab_tys G) U ∧ ∀ w ∈ ab_nw, va_Nw w U
def ab_Dn (A : Nat → Prop) (ad : Nat → Nat) (n : Nat) : Prop := (∀ i j : Nat, i < n → j < n → ad i = ad j → i = j) ∧ ∀ k : Nat, k < n → A (ad k)
theorem ab_TB_of {w : Jvm.Cond} (h : w ∈ lw_tbl) (g : goodWord w = true) : w ∈ ab_TB := List.mem_filter.mpr ⟨h, g⟩
theorem ab_TB_good : GoodIn ab_TB ab_TB := fun w h => ⟨h, good_of_word (List.mem_filter.mp h).2⟩
theorem ab_KK.warm {G : ab_G} {s U : State} (hW : s.WarmedH U.vm) (h : ab_KK G s) : ab_KK G U := by
  refine ⟨h.1.moved hW.alike, fun w hw => ?_⟩
  have h1 := h.2 w hw
  have h2 := (List.mem_filter.mp hw).2
  cases w with
  | fieldLinkNest a i b n d x => exact h1.warmF hW
  | methodLinkNest a i y x => exact h1.warmM hW
  | _ => cases h2
theorem ab_isN_on {w : Jvm.Cond} (h : ab_isN w = true) : w.onTables = true := by
  cases w <;> first | rfl | cases h
theorem ab_KK.same {G : ab_G} {u U : State} (hvm : u.vm = U.vm) (h : ab_KK G u) : ab_KK G U := by
  refine ⟨h.1.moved (by rw [hvm]; exact Vm.Alike.refl U.vm), fun w hw => ?_⟩
  exact (h.2 w hw).same (ab_isN_on (List.mem_filter.mp hw).2) hvm
theorem ab_cs_get (G : ab_G) (ad : Nat → Nat) (cs : List ab_C) (k : Nat) : (ab_cs G ad cs)[k]? = cs[k]?.map (fun c => (ad k, ab_e G ad c)) := by
  unfold ab_cs
  rw [List.getElem?_mapIdx]
theorem ab_cs_at {G : ab_G} {ad : Nat → Nat} {cs : List ab_C} {k : Nat} {c : ab_C} (h : cs[k]? = some c) : (ab_cs G ad cs)[k]? = some (ad k, ab_e G ad c) := by
  rw [ab_cs_get, h]; rfl
theorem ab_cs_of {G : ab_G} {ad : Nat → Nat} {cs : List ab_C} {k : Nat} {q : Nat × va_E} (h : (ab_cs G ad cs)[k]? = some q) : ∃ c, cs[k]? = some c ∧ q = (ad k, ab_e G ad c) := by
  rw [ab_cs_get] at h
  cases hc : cs[k]? with
  | none => rw [hc] at h; cases h
  | some c => rw [hc] at h; exact ⟨c, rfl, (Option.some.inj h).symm⟩
theorem ab_cs_set (G : ab_G) (ad : Nat → Nat) (cs : List ab_C) (k : Nat) (c : ab_C) : (ab_cs G ad cs).set k (ad k, ab_e G ad c) = ab_cs G ad (cs.set k c) := by
  apply List.ext_getElem?
  intro j
  rw [ab_cs_get, List.getElem?_set, List.getElem?_set, ab_cs_get]
  have hl : (ab_cs G ad cs).length = cs.length := by simp [ab_cs]
  rw [hl]
  by_cases h : k = j
  · subst h
    rw [if_pos rfl, if_pos rfl]
    by_cases h2 : k < cs.length
    · rw [if_pos h2, if_pos h2]; rfl
    · rw [if_neg h2, if_neg h2]; rfl
  · rw [if_neg h, if_neg h]
theorem ab_lt_of {α : Type} {l : List α} {k : Nat} {x : α} (h : l[k]? = some x) : k < l.length := (List.getElem?_eq_some_iff.mp h).1
theorem ab_Dn.to {A : Nat → Prop} {ad : Nat → Nat} {n : Nat} (h : ab_Dn A ad n) {G : ab_G} {cs : List ab_C} (hn : cs.length = n) : va_D A (ab_cs G ad cs) := by
  refine ⟨fun i j x y hi hj hxy => ?_, fun k q hk => ?_⟩
  · obtain ⟨c1, h1, rfl⟩ := ab_cs_of hi
    obtain ⟨c2, h2, rfl⟩ := ab_cs_of hj
    exact h.1 i j (hn ▸ ab_lt_of h1) (hn ▸ ab_lt_of h2) hxy
  · obtain ⟨c1, h1, rfl⟩ := ab_cs_of hk
    exact h.2 k (hn ▸ ab_lt_of h1)
theorem ab_cat1 {ad : Nat → Nat} {v : ab_V} (h : ab_c1 v = true) : (ab_c ad v).category = 1 := by
  rcases v with n | ⟨⟨⟩ | r⟩ | L
  · rfl
  · rfl
  · rfl
  · cases h
theorem ab_cat2 {ad : Nat → Nat} {v : ab_V} (h : (ab_c ad v).category = 2) : ab_c1 v = false := by
  rcases v with n | ⟨⟨⟩ | r⟩ | L
  · cases h
  · cases h
  · cases h
  · rfl
theorem ab_catS (ad : Nat → Nat) (st : List ab_V) : ((st.map (ab_c ad)).map fun v => v.category).sum = ab_cat st := by
  induction st with
  | nil => rfl
  | cons v r ih =>
    rw [List.map_cons, List.map_cons, List.sum_cons, ih]
    have e0 : ab_cat (v :: r) = (match ab_c1 v with | true => 1 | false => 2) + ab_cat r := rfl
    rw [e0]
    cases hc : ab_c1 v with
    | true => rw [ab_cat1 hc]
    | false =>
      rcases v with n | ⟨⟨⟩ | q⟩ | L
      · cases hc
      · cases hc
      · cases hc
      · rfl
/-! locals -/
def ab_lh (ad : Nat → Nat) (ls : Array Slot) (nL : Nat) (lv : ab_L) : Prop := ls.size = nL ∧ lv_wf ls ∧ lv.length = nL ∧ ∀ (i : Nat) (v : ab_V), lv[i]? = some (some v) → ls[i]? = some (.val (ab_c ad v))
def ab_ll (ad : Nat → Nat) (lv : ab_L) : List (Nat × Value) := (lv.mapIdx (fun k o => o.map (fun v => (k, ab_c ad v)))).filterMap id
theorem ab_ll_in {ad : Nat → Nat} {lv : ab_L} {q : Nat × Value} : q ∈ ab_ll ad lv ↔ ∃ v, lv[q.1]? = some (some v) ∧ q.2 = ab_c ad v := by
  unfold ab_ll
  rw [List.mem_filterMap]
  constructor
  · rintro ⟨o, ho, hq⟩
    obtain ⟨k, hk⟩ := List.getElem?_of_mem ho
    rw [List.getElem?_mapIdx] at hk
    have hq' : o = some q := hq
    subst hq'
    cases hc : lv[k]? with
    | none => rw [hc] at hk; cases hk
    | some x =>
      rw [hc] at hk
      cases x with
      | none => cases hk
      | some v =>
        have hk2 : (k, ab_c ad v) = q := Option.some.inj (Option.some.inj hk)
        subst hk2
        exact ⟨v, hc, rfl⟩
  · rintro ⟨v, hv, hq⟩
    refine ⟨some q, ?_, rfl⟩
    refine List.mem_of_getElem? (i := q.1) ?_
    rw [List.getElem?_mapIdx, hv]
    obtain ⟨a, b⟩ := q
    dsimp only at hq
    subst hq
    rfl
theorem ab_lh.has {ad : Nat → Nat} {ls : Array Slot} {nL : Nat} {lv : ab_L} (h : ab_lh ad ls nL lv) : lv_has ls nL (ab_ll ad lv) := by
  refine ⟨h.1, h.2.1, fun q hq => ?_⟩
  obtain ⟨v, h1, h2⟩ := ab_ll_in.mp hq
  rw [h2]
  exact h.2.2.2 q.1 v h1
theorem ab_lh.set1 {ad : Nat → Nat} {ls ls' : Array Slot} {nL i : Nat} {lv : ab_L} {v : ab_V} (h : ab_lh ad ls nL lv) (hn : ab_nl lv i = true) (hi : i < nL)
    (h' : lv_has ls' nL ((i, ab_c ad v) :: (ab_ll ad lv).filter (fun q => !(q.1 == i) && !(q.1 + 1 == i && q.2.category == 2)))) : ab_lh ad ls' nL (lv.set i (some v)) := by
  refine ⟨h'.1, h'.2.1, by rw [List.length_set]; exact h.2.2.1, fun j w hj => ?_⟩
  rw [List.getElem?_set] at hj
  by_cases e : i = j
  · subst e
    rw [if_pos rfl, if_pos (by rw [h.2.2.1]; exact hi)] at hj
    have e2 := Option.some.inj (Option.some.inj hj)
    subst e2
    exact h'.2.2 _ List.mem_cons_self
  · rw [if_neg e] at hj
    refine h'.2.2 (j, ab_c ad w) (List.mem_cons_of_mem _ (List.mem_filter.mpr ⟨ab_ll_in.mpr ⟨w, hj, rfl⟩, ?_⟩))
    simp only [Bool.and_eq_true, Bool.not_eq_true', beq_eq_false_iff_ne, ne_eq, Bool.and_eq_false_iff]
    refine ⟨fun q => e q.symm, ?_⟩
    by_cases e3 : j + 1 = i
    · right
      subst e3
      intro q
      have := ab_cat2 q
      simp only [ab_nl, hj, this] at hn
      cases hn
    · left; exact e3
theorem ab_lh.set2 {ad : Nat → Nat} {ls ls' : Array Slot} {nL i : Nat} {lv : ab_L} {v : ab_V} (h : ab_lh ad ls nL lv) (hn : ab_nl lv i = true) (hi : i + 1 < nL)
    (h' : lv_has ls' nL ((i, ab_c ad v) :: (ab_ll ad lv).filter (fun q => !(q.1 == i) && (!(q.1 == i + 1) && !(q.1 + 1 == i && q.2.category == 2))))) : ab_lh ad ls' nL ((lv.set i (some v)).set (i + 1) none) := by
  refine ⟨h'.1, h'.2.1, by rw [List.length_set, List.length_set]; exact h.2.2.1, fun j w hj => ?_⟩
  rw [List.getElem?_set] at hj
  by_cases e1 : i + 1 = j
  · rw [if_pos e1, List.length_set] at hj
    split at hj <;> cases hj
  rw [if_neg e1, List.getElem?_set] at hj
  by_cases e : i = j
  · subst e
    rw [if_pos rfl, if_pos (by rw [h.2.2.1]; omega)] at hj
    have e2 := Option.some.inj (Option.some.inj hj)
    subst e2
    exact h'.2.2 _ List.mem_cons_self
  · rw [if_neg e] at hj
    refine h'.2.2 (j, ab_c ad w) (List.mem_cons_of_mem _ (List.mem_filter.mpr ⟨ab_ll_in.mpr ⟨w, hj, rfl⟩, ?_⟩))
    simp only [Bool.and_eq_true, Bool.not_eq_true', beq_eq_false_iff_ne, ne_eq, Bool.and_eq_false_iff]
    refine ⟨fun q => e q.symm, fun q => e1 q.symm, ?_⟩
    by_cases e3 : j + 1 = i
    · right
      subst e3
      intro q
      have := ab_cat2 q
      simp only [ab_nl, hj, this] at hn
      cases hn
    · left; exact e3
/-! numbers -/
theorem ab_toI {a : Int} (h : ab_r a) : (Int32.ofInt a).toInt = a := Int32.toInt_ofInt_of_le h.1 h.2
theorem ab_eqI {a b : Int} (ha : ab_r a) (hb : ab_r b) : Int32.ofInt a = Int32.ofInt b ↔ a = b := by
  constructor
  · intro h
    have := congrArg Int32.toInt h
    rwa [ab_toI ha, ab_toI hb] at this
  · intro h; rw [h]
theorem ab_ltI {a b : Int} (ha : ab_r a) (hb : ab_r b) : Int32.ofInt a < Int32.ofInt b ↔ a < b := by
  rw [Int32.lt_iff_toInt_lt, ab_toI ha, ab_toI hb]
theorem ab_leI {a b : Int} (ha : ab_r a) (hb : ab_r b) : Int32.ofInt a ≤ Int32.ofInt b ↔ a ≤ b := by
  rw [Int32.le_iff_toInt_le, ab_toI ha, ab_toI hb]
theorem ab_r0 : ab_r 0 := ⟨by omega, by omega⟩
theorem ab_0 : Int32.ofInt 0 = 0 := rfl
theorem ab_in {i : Int} {n : Nat} (h0 : 0 ≤ i) (h1 : i < n) (hn : n < 2147483648) : vp_in (Int32.ofInt i) n ∧ ((Int32.ofInt i).toNatClampNeg : Int) = i := by
  have hr : ab_r i := ⟨by omega, by omega⟩
  refine ⟨vp_in_iff.mpr (by rw [ab_toI hr]; exact ⟨h0, h1⟩), ?_⟩
  show (((Int32.ofInt i).toInt).toNat : Int) = i
  rw [ab_toI hr]
  exact Int.toNat_of_nonneg h0
theorem ab_look_in {α : Type} : ∀ {l : List (Nat × α)} {k : Nat} {v : α}, ab_look l k = some v → (k, v) ∈ l
  | [], _, _, h => by cases h
  | a :: l, k, v, h => by
    unfold ab_look at h
    split at h
    · next e =>
      have e1 := Nat.eq_of_beq_eq_true e
      have e2 := Option.some.inj h
      subst e1; subst e2
      exact List.mem_cons_self
    · exact List.mem_cons_of_mem _ (ab_look_in h)
theorem ab_find_in : ∀ {P : List ab_I} {pc : Nat} {q : ab_I}, ab_find P pc = some q → q ∈ P ∧ q.1 = pc
  | [], _, _, h => by cases h
  | a :: l, pc, q, h => by
    unfold ab_find at h
    split at h
    · next e =>
      have e2 := Option.some.inj h
      subst e2
      exact ⟨List.mem_cons_self, Nat.eq_of_beq_eq_true e⟩
    · have h1 := ab_find_in h
      exact ⟨List.mem_cons_of_mem _ h1.1, h1.2⟩
