/-! CHUNKS ARE EVENED OUT -/
def mq_rt (n : Nat) : Nat := if n < 4 then 1 else if n < 9 then 2 else if n < 16 then 3 else if n < 25 then 4 else if n < 36 then 5 else if n < 49 then 6 else 7
theorem mq_rt_in (n : Nat) : 1 ≤ mq_rt n ∧ mq_rt n ≤ 7 := by
  unfold mq_rt
  repeat' split
  all_goals omega
theorem mq_rt_is {z : Nat} {r : Int} (h : (r = 1 ∧ z < 4) ∨ (r = 2 ∧ 4 ≤ z ∧ z < 9) ∨ (r = 3 ∧ 9 ≤ z ∧ z < 16) ∨ (r = 4 ∧ 16 ≤ z ∧ z < 25) ∨ (r = 5 ∧ 25 ≤ z ∧ z < 36) ∨ (r = 6 ∧ 36 ≤ z ∧ z < 49) ∨ (r = 7 ∧ 49 ≤ z)) : r = (mq_rt z : Int) := by
  have e : mq_rt z = r.toNat := by
    unfold mq_rt
    repeat' split
    all_goals omega
  rw [e]
  omega
def mq_pt (t : Nat) : Nat → List mq_K → List mq_K × Int
  | 0, q => (q, 0)
  | _ + 1, [] => ([], 0)
  | n + 1, k :: q => if 2 * t < k.1.length then (((mq_row k).take t, 0, 0) :: (mq_pt t n (((mq_row k).drop t, 0, 0) :: q)).1, mq_cost k + ((k.1.length : Int) - t) + (mq_pt t n (((mq_row k).drop t, 0, 0) :: q)).2)
    else (k :: (mq_pt t n q).1, (mq_pt t n q).2)
def mq_jn (t : Nat) : mq_K → List mq_K → List mq_K × Int
  | k, [] => ([k], 0)
  | k, k2 :: q => if k.1.length + k2.1.length ≤ t then ((mq_jn t (mq_row k ++ mq_row k2, 0, 0) q).1, mq_cost k + mq_cost k2 + k2.1.length + (mq_jn t (mq_row k ++ mq_row k2, 0, 0) q).2)
    else (k :: (mq_jn t k2 q).1, (mq_jn t k2 q).2)
def mq_js (t : Nat) : List mq_K → List mq_K × Int
  | [] => ([], 0)
  | k :: q => mq_jn t k q
def mq_ev (q : List mq_K) : List mq_K × Int := ((mq_js (mq_rt (mq_flat q).length) (mq_pt (mq_rt (mq_flat q).length) 60 q).1).1, (mq_pt (mq_rt (mq_flat q).length) 60 q).2 + (mq_js (mq_rt (mq_flat q).length) (mq_pt (mq_rt (mq_flat q).length) 60 q).1).2)
theorem mq_pt_all (t : Nat) : ∀ (n : Nat) (q : List mq_K), mq_all (mq_pt t n q).1 = mq_all q
  | 0, _ => rfl
  | _ + 1, [] => rfl
  | n + 1, k :: q => by
    unfold mq_pt
    split
    · dsimp only
      rw [mq_all_cons, mq_pt_all t n, mq_all_cons, mq_all_cons, mq_row_done, mq_row_done, ← List.append_assoc, List.take_append_drop]
    · dsimp only
      rw [mq_all_cons, mq_pt_all t n, mq_all_cons]
theorem mq_pt_ok (t : Nat) (ht : 0 < t) : ∀ (n : Nat) (q : List mq_K), (∀ k ∈ q, mq_ok k) → ∀ k ∈ (mq_pt t n q).1, mq_ok k
  | 0, _, h => h
  | _ + 1, [], _ => fun k hk => by cases hk
  | n + 1, k :: q, h => by
    have hk := h k List.mem_cons_self
    have hq : ∀ x ∈ q, mq_ok x := fun x hx => h x (List.mem_cons_of_mem _ hx)
    unfold mq_pt
    split
    · intro x hx
      rcases List.mem_cons.mp hx with rfl | hx
      · exact mq_ok_done (by rw [List.length_take, mq_row_len]; omega) (fun y hy => hk.2.2.2 y (List.mem_of_mem_take hy))
      · refine mq_pt_ok t ht n _ (fun y hy => ?_) x hx
        rcases List.mem_cons.mp hy with rfl | hy
        · exact mq_ok_done (by rw [List.length_drop, mq_row_len]; omega) (fun y hy => hk.2.2.2 y (List.mem_of_mem_drop hy))
        · exact hq y hy
    · intro x hx
      rcases List.mem_cons.mp hx with rfl | hx
      · exact hk
      · exact mq_pt_ok t ht n q hq x hx
theorem mq_jn_all (t : Nat) : ∀ (q : List mq_K) (k : mq_K), mq_all (mq_jn t k q).1 = mq_all (k :: q)
  | [], _ => rfl
  | k2 :: q, k => by
    unfold mq_jn
    split
    · dsimp only
      rw [mq_jn_all t q, mq_all_cons, mq_all_cons, mq_all_cons, mq_row_done, List.append_assoc]
    · dsimp only
      rw [mq_all_cons, mq_jn_all t q, mq_all_cons k]
theorem mq_jn_ok (t : Nat) : ∀ (q : List mq_K) (k : mq_K), mq_ok k → (∀ x ∈ q, mq_ok x) → ∀ x ∈ (mq_jn t k q).1, mq_ok x
  | [], k, hk, _ => fun x hx => by rw [List.mem_singleton.mp hx]; exact hk
  | k2 :: q, k, hk, h => by
    have hk2 := h k2 List.mem_cons_self
    have hq : ∀ x ∈ q, mq_ok x := fun x hx => h x (List.mem_cons_of_mem _ hx)
    unfold mq_jn
    split
    · refine mq_jn_ok t q _ (mq_ok_done ?_ (fun y hy => ?_)) hq
      · rw [List.length_append, mq_row_len, mq_row_len]
        have := hk.1
        omega
      · rcases List.mem_append.mp hy with hy | hy
        · exact hk.2.2.2 y hy
        · exact hk2.2.2.2 y hy
    · intro x hx
      rcases List.mem_cons.mp hx with rfl | hx
      · exact hk
      · exact mq_jn_ok t q k2 hk2 hq x hx
theorem mq_js_all (t : Nat) (q : List mq_K) : mq_all (mq_js t q).1 = mq_all q := by
  cases q with
  | nil => rfl
  | cons k q => exact mq_jn_all t q k
theorem mq_js_ok (t : Nat) (q : List mq_K) (h : ∀ x ∈ q, mq_ok x) : ∀ x ∈ (mq_js t q).1, mq_ok x := by
  cases q with
  | nil => exact fun x hx => by cases hx
  | cons k q => exact mq_jn_ok t q k (h k List.mem_cons_self) (fun x hx => h x (List.mem_cons_of_mem _ hx))
theorem mq_W_all {q q' : List mq_K} (h : mq_W q) (h1 : ∀ k ∈ q', mq_ok k) (h2 : mq_all q' = mq_all q) : mq_W q' := ⟨h1, by rw [← mq_all_len, h2, mq_all_len]; exact h.2⟩
theorem mq_pt_W {t n : Nat} {q : List mq_K} (ht : 0 < t) (h : mq_W q) : mq_W (mq_pt t n q).1 := mq_W_all h (mq_pt_ok t ht n q h.1) (mq_pt_all t n q)
theorem mq_js_W {t : Nat} {q : List mq_K} (h : mq_W q) : mq_W (mq_js t q).1 := mq_W_all h (mq_js_ok t q h.1) (mq_js_all t q)
theorem mq_ev_W {q : List mq_K} (h : mq_W q) : mq_W (mq_ev q).1 := mq_js_W (mq_pt_W (mq_rt_in _).1 h)
theorem mq_R_join {K L T S : Int → Int} {n c w w' : Int} {A : List mq_K} {l1 l2 : List Int} {B : List mq_K} (h : mq_R (K, L, T, S, n, c, w) (A ++ (l1, 0, 0) :: (l2, 0, 0) :: B)) :
    mq_R (K, mq_del (ab_up L A.length ((l1.length : Int) + l2.length)) c (A.length + 1), mq_del T c (A.length + 1), mq_del S c (A.length + 1), n, c - 1, w') (A ++ (l1 ++ l2, 0, 0) :: B) := by
  obtain ⟨r1, r2, r3, r4, r5, r6⟩ := h
  dsimp only at r1 r2 r3 r4 r5 r6
  have hc : c = (A.length : Int) + 2 + B.length := by rw [r6]; simp; omega
  refine ⟨?_, ?_, ?_, ?_, ?_, ?_⟩ <;> dsimp only
  · rw [mq_flat_mid] at r1 ⊢
    rw [mq_flat_cons] at r1
    rw [List.append_assoc]
    exact r1
  · rw [mq_map_mid] at r2 ⊢
    have h1 := mq_al_up (x := (l1.length : Int) + l2.length) r2
    rw [List.length_map] at h1
    rw [show mq_len (l1 ++ l2, 0, 0) = (l1.length : Int) + l2.length by unfold mq_len; dsimp only; rw [List.length_append]; omega]
    rw [List.map_cons] at h1
    have h2 := mq_al_del (X := A.map mq_len ++ [(l1.length : Int) + l2.length]) (Z := B.map mq_len) (y := mq_len (l2, 0, 0)) (n := c) (k := A.length + 1) (by rw [List.append_assoc]; exact h1) (by simp; omega) (by simp)
    rwa [List.append_assoc] at h2
  · rw [mq_map_mid] at r3 ⊢
    rw [List.map_cons] at r3
    have h2 := mq_al_del (X := A.map (fun k => k.2.1) ++ [0]) (Z := B.map (fun k => k.2.1)) (y := 0) (n := c) (k := A.length + 1) (by rw [List.append_assoc]; exact r3) (by simp; omega) (by simp)
    rwa [List.append_assoc] at h2
  · rw [mq_map_mid] at r4 ⊢
    rw [List.map_cons] at r4
    have h2 := mq_al_del (X := A.map (fun k => k.2.2) ++ [0]) (Z := B.map (fun k => k.2.2)) (y := 0) (n := c) (k := A.length + 1) (by rw [List.append_assoc]; exact r4) (by simp; omega) (by simp)
    rwa [List.append_assoc] at h2
  · rw [r5, mq_flat_mid, mq_flat_mid, mq_flat_cons]
    simp
  · rw [r6]; simp; omega

