/-! ===== rows of slices, purely ===== -/
def pt (d : Nat) : Int := 2329089562800 / (d : Int)
set_option maxRecDepth 100000 in
theorem pt_lt' : ∀ d, d < 31 → ∀ e, e < 31 → 1 ≤ d → d < e → pt e < pt d := by decide +kernel
theorem pt_lt {d e : Nat} (h1 : 1 ≤ d) (h : d < e) (h2 : e ≤ 30) : pt e < pt d := pt_lt' d (by omega) e (by omega) h1 h
theorem pt_b' : ∀ d, d < 31 → 1 ≤ d → 0 < pt d ∧ pt d ≤ 2329089562800 ∧ pt d * (d : Int) = 2329089562800 := by decide +kernel
theorem pt_b {d : Nat} (h1 : 1 ≤ d) (h2 : d ≤ 30) : 0 < pt d ∧ pt d ≤ 2329089562800 ∧ pt d * (d : Int) = 2329089562800 := pt_b' d (by omega) h1
/-- all rows of k slices out of the last f ones, members of S, that are together l; the first ones first -/
def rws (S : Nat → Bool) : Nat → Nat → Int → List (List Nat)
  | 0, 0, l => if l = 0 then [[]] else []
  | 0, _ + 1, _ => []
  | _ + 1, 0, l => if l = 0 then [[]] else []
  | f + 1, k + 1, l => (if S (30 - f) = true then (rws S f k (l - pt (30 - f))).map (fun r => (30 - f) :: r) else []) ++ rws S f (k + 1) l
theorem rws_0 {S : Nat → Bool} {f : Nat} {l : Int} : rws S f 0 l = if l = 0 then [[]] else [] := by cases f <;> rfl
theorem rws_z {S : Nat → Bool} {k : Nat} {l : Int} : rws S 0 (k + 1) l = [] := rfl
theorem rws_s {S : Nat → Bool} {f k : Nat} {l : Int} : rws S (f + 1) (k + 1) l = (if S (30 - f) = true then (rws S f k (l - pt (30 - f))).map (fun r => (30 - f) :: r) else []) ++ rws S f (k + 1) l := rfl
theorem rws_np {S : Nat → Bool} : ∀ (f k : Nat) (l : Int), f ≤ 30 → l ≤ 0 → rws S f (k + 1) l = [] := by
  intro f
  induction f with
  | zero => intro k l _ _; rfl
  | succ f ih =>
    intro k l hf hl
    have hp := (pt_b (d := 30 - f) (by omega) (by omega)).1
    rw [rws_s, ih k l (by omega) hl, List.append_nil]
    split
    · cases k with
      | zero => rw [rws_0, if_neg (by omega)]; rfl
      | succ k => rw [ih k _ (by omega) (by omega)]; rfl
    · rfl
theorem rws_big {S : Nat → Bool} : ∀ (f k : Nat) (l : Int), f + 1 ≤ 30 → ((k + 1 : Nat) : Int) * pt (30 - f) < l → rws S (f + 1) (k + 1) l = [] := by
  intro f
  induction f with
  | zero =>
    intro k l hf hl
    rw [rws_s, rws_z, List.append_nil]
    split
    · cases k with
      | zero => rw [rws_0, if_neg (by omega)]; rfl
      | succ k => rfl
    · rfl
  | succ f ih =>
    intro k l hf hl
    have hp := pt_lt (d := 30 - (f + 1)) (e := 30 - f) (by omega) (by omega) (by omega)
    have m1 : ∀ n : Nat, (n : Int) * pt (30 - f) ≤ (n : Int) * pt (30 - (f + 1)) := fun n => Int.mul_le_mul_of_nonneg_left (Int.le_of_lt hp) (by omega)
    rw [rws_s, ih k l (by omega) (Int.lt_of_le_of_lt (m1 _) hl), List.append_nil]
    split
    · cases k with
      | zero => rw [rws_0, if_neg (by omega)]; rfl
      | succ k =>
        have := m1 (k + 1)
        have e : ((k + 1 + 1 : Nat) : Int) * pt (30 - (f + 1)) = ((k + 1 : Nat) : Int) * pt (30 - (f + 1)) + pt (30 - (f + 1)) := by rw [Int.natCast_add (k + 1) 1, Int.add_mul]; omega
        rw [ih k _ (by omega) (by omega)]; rfl
    · rfl
theorem rws_big2 {S : Nat → Bool} {f k : Nat} {l : Int} (hf : f + 1 ≤ 30) (hl : ((k + 2 : Nat) : Int) * pt (30 - f) ≤ l) : rws S (f + 1) (k + 2) l = [] := by
  cases f with
  | zero =>
    rw [rws_s, rws_z (k := k + 1), rws_z (k := k), List.append_nil]
    split <;> rfl
  | succ f =>
    have hp := pt_lt (d := 30 - (f + 1)) (e := 30 - f) (by omega) (by omega) (by omega)
    have m1 : ∀ n : Nat, ((n + 1 : Nat) : Int) * pt (30 - f) < ((n + 1 : Nat) : Int) * pt (30 - (f + 1)) := fun n => Int.mul_lt_mul_of_pos_left hp (by omega)
    have e : ((k + 2 : Nat) : Int) * pt (30 - (f + 1)) = ((k + 1 : Nat) : Int) * pt (30 - (f + 1)) + pt (30 - (f + 1)) := by
      rw [show k + 2 = (k + 1) + 1 from rfl, Int.natCast_add (k + 1) 1, Int.add_mul]; omega
    have h1 := m1 k
    have h2 := m1 (k + 1)
    rw [rws_s, rws_big f (k + 1) l (by omega) (Int.lt_of_lt_of_le h2 hl), List.append_nil, rws_big f k _ (by omega) (by omega)]
    split <;> rfl
theorem rws_none {S : Nat → Bool} : ∀ (f k : Nat) (l : Int), f ≤ 30 → (∀ x, 31 - f ≤ x → x ≤ 30 → S x = false) → rws S f (k + 1) l = [] := by
  intro f
  induction f with
  | zero => intro k l _ _; rfl
  | succ f ih =>
    intro k l hf hS
    rw [rws_s, ih k l (by omega) (fun x h1 h2 => hS x (by omega) h2), List.append_nil, if_neg (by rw [hS (30 - f) (by omega) (by omega)]; decide)]
theorem rws_one_no {S : Nat → Bool} {l : Int} : ∀ (f : Nat), f ≤ 30 → (∀ x, 31 - f ≤ x → x ≤ 30 → S x = true → ¬ pt x = l) → rws S f 1 l = [] := by
  intro f
  induction f with
  | zero => intro _ _; rfl
  | succ f ih =>
    intro hf hS
    rw [rws_s, ih (by omega) (fun x h1 h2 => hS x (by omega) h2), List.append_nil, rws_0]
    split
    · rename_i h
      have := hS (30 - f) (by omega) (by omega) h
      rw [if_neg (by omega)]; rfl
    · rfl
theorem rws_one {S : Nat → Bool} {l : Int} {x : Nat} (hx : x ≤ 30) (hS : S x = true) (hl : pt x = l) : ∀ (f : Nat), f ≤ 30 → 31 - f ≤ x → rws S f 1 l = [[x]] := by
  intro f
  induction f with
  | zero => intro _ h; omega
  | succ f ih =>
    intro hf h
    rw [rws_s, rws_0]
    by_cases q : x = 30 - f
    · rw [rws_one_no f (by omega) (fun y h1 h2 _ => by have := pt_lt (d := x) (e := y) (by omega) (by omega) h2; omega), List.append_nil, ← q, if_pos hS, if_pos (by omega)]
      rfl
    · have := pt_lt (d := 30 - f) (e := x) (by omega) (by omega) hx
      rw [ih (by omega) (by omega), if_neg (show ¬ l - pt (30 - f) = 0 by omega)]
      split <;> rfl
theorem rws_mem {S : Nat → Bool} : ∀ (f k : Nat) (l : Int) (r : List Nat), f ≤ 30 → r ∈ rws S f k l → r.length = k ∧ ∀ x, x ∈ r → 31 - f ≤ x ∧ x ≤ 30 := by
  intro f
  induction f with
  | zero =>
    intro k l r hf h
    cases k with
    | zero =>
      rw [rws_0] at h
      split at h
      · rw [List.mem_singleton.mp h]; exact ⟨rfl, fun x hx => by cases hx⟩
      · cases h
    | succ k => cases h
  | succ f ih =>
    intro k l r hf h
    cases k with
    | zero =>
      rw [rws_0] at h
      split at h
      · rw [List.mem_singleton.mp h]; exact ⟨rfl, fun x hx => by cases hx⟩
      · cases h
    | succ k =>
      rw [rws_s] at h
      rcases List.mem_append.mp h with h | h
      · split at h
        · obtain ⟨r2, h2, rfl⟩ := List.mem_map.mp h
          obtain ⟨a, b⟩ := ih k _ r2 (by omega) h2
          refine ⟨by rw [List.length_cons, a], fun x hx => ?_⟩
          rcases List.mem_cons.mp hx with rfl | hx
          · omega
          · have := b x hx; omega
        · cases h
      · obtain ⟨a, b⟩ := ih (k + 1) l r (by omega) h
        exact ⟨a, fun x hx => by have := b x hx; omega⟩
theorem rws_len {S : Nat → Bool} : ∀ (f k : Nat) (l : Int), (rws S f k l).length ≤ 2 ^ f := by
  intro f
  induction f with
  | zero =>
    intro k l
    cases k with
    | zero => rw [rws_0]; split <;> decide
    | succ k => exact Nat.zero_le _
  | succ f ih =>
    intro k l
    cases k with
    | zero =>
      have := Nat.one_le_two_pow (n := f + 1)
      rw [rws_0]
      split
      · exact this
      · exact Nat.zero_le _
    | succ k =>
      have h1 := ih k (l - pt (30 - f))
      have h2 := ih (k + 1) l
      rw [rws_s, List.length_append, Nat.pow_succ]
      split
      · rw [List.length_map]; omega
      · rw [List.length_nil]; omega
/-- how often a slice is in the rows -/
def cntR (rs : List (List Nat)) (d : Nat) : Nat := (rs.map fun r => r.count d).sum
def lastN : List Nat → Nat
  | [] => 0
  | [x] => x
  | _ :: y :: r => lastN (y :: r)
theorem lastN_app {x : Nat} {r : List Nat} : ∀ p : List Nat, lastN (p ++ x :: r) = lastN (x :: r) := by
  intro p
  induction p with
  | nil => rfl
  | cons a p ih =>
    cases p with
    | nil => rfl
    | cons b p => exact ih
theorem lastN_mem {x : Nat} {r : List Nat} : lastN (x :: r) ∈ x :: r := by
  induction r generalizing x with
  | nil => exact List.mem_singleton.mpr rfl
  | cons y r ih => exact List.mem_cons_of_mem _ ih
/-- what is kept of the rows: the bound, the best, how many, how often each slice -/
abbrev RwS : Type := Nat × List Nat × Nat × (Nat → Nat)
def rwStep (g : Nat) (s : RwS) (r : List Nat) : RwS × Bool :=
  if g = 0 then ((s.1, r, s.2.2.1, s.2.2.2), true) else if g = 1 then ((s.1, s.2.1, s.2.2.1 + 1, fun d => s.2.2.2 d + r.count d), false)
  else if lastN r < s.1 then ((lastN r, r, s.2.2.1, s.2.2.2), false) else (s, false)
def rwRun (g : Nat) : List (List Nat) → RwS → RwS × Bool
  | [], s => (s, false)
  | r :: rs, s => if (rwStep g s r).2 = true then rwStep g s r else rwRun g rs (rwStep g s r).1
theorem rwRun_app {g : Nat} : ∀ (a b : List (List Nat)) (s : RwS), rwRun g (a ++ b) s = if (rwRun g a s).2 = true then rwRun g a s else rwRun g b (rwRun g a s).1 := by
  intro a
  induction a with
  | nil => intro b s; rfl
  | cons r a ih =>
    intro b s
    show (if (rwStep g s r).2 = true then rwStep g s r else rwRun g (a ++ b) (rwStep g s r).1) = if (if (rwStep g s r).2 = true then rwStep g s r else rwRun g a (rwStep g s r).1).2 = true then (if (rwStep g s r).2 = true then rwStep g s r else rwRun g a (rwStep g s r).1) else rwRun g b (if (rwStep g s r).2 = true then rwStep g s r else rwRun g a (rwStep g s r).1).1
    by_cases q : (rwStep g s r).2 = true
    · rw [if_pos q, if_pos q, if_pos q]
    · rw [if_neg q, if_neg q, ih]
theorem rwRun_skip {s : RwS} : ∀ rs : List (List Nat), (∀ r, r ∈ rs → ¬ lastN r < s.1) → rwRun 2 rs s = (s, false) := by
  intro rs
  induction rs with
  | nil => intro _; rfl
  | cons r rs ih =>
    intro h
    have e : rwStep 2 s r = (s, false) := by
      unfold rwStep
      rw [if_neg (by decide), if_neg (by decide), if_neg (h r (List.mem_cons_self ..))]
    show (if (rwStep 2 s r).2 = true then rwStep 2 s r else rwRun 2 rs (rwStep 2 s r).1) = _
    rw [e]
    exact ih (fun r2 h2 => h r2 (List.mem_cons_of_mem _ h2))
theorem rwRun_0 {s : RwS} {rs : List (List Nat)} : rwRun 0 rs s = match rs with
  | [] => (s, false)
  | r :: _ => ((s.1, r, s.2.2.1, s.2.2.2), true) := by
  cases rs <;> rfl
theorem cntR_cons {r : List Nat} {rs : List (List Nat)} {d : Nat} : cntR (r :: rs) d = r.count d + cntR rs d := rfl
theorem rwRun_1 : ∀ (rs : List (List Nat)) (s : RwS), rwRun 1 rs s = ((s.1, s.2.1, s.2.2.1 + rs.length, fun d => s.2.2.2 d + cntR rs d), false) := by
  intro rs
  induction rs with
  | nil => intro s; rfl
  | cons r rs ih =>
    intro s
    show (if (rwStep 1 s r).2 = true then rwStep 1 s r else rwRun 1 rs (rwStep 1 s r).1) = _
    have e : rwStep 1 s r = ((s.1, s.2.1, s.2.2.1 + 1, fun d => s.2.2.2 d + r.count d), false) := rfl
    rw [e]
    refine (ih _).trans ?_
    rw [List.length_cons]
    have e2 : s.2.2.1 + 1 + rs.length = s.2.2.1 + (rs.length + 1) := by omega
    have e3 : (fun d => s.2.2.2 d + r.count d + cntR rs d) = fun d => s.2.2.2 d + cntR (r :: rs) d := funext fun d => by rw [cntR_cons]; omega
    show ((s.1, s.2.1, s.2.2.1 + 1 + rs.length, fun d => s.2.2.2 d + r.count d + cntR rs d), false) = _
    rw [e2, e3]
/-- only the bound moves in search of the kindest -/
theorem rwRun_b {g : Nat} (hg : g = 0 ∨ g = 1) : ∀ (rs : List (List Nat)) (s : RwS), (rwRun g rs s).1.1 = s.1 := by
  intro rs
  induction rs with
  | nil => intro s; rfl
  | cons r rs ih =>
    intro s
    have e : (rwStep g s r).1.1 = s.1 := by
      rcases hg with q | q <;> subst q <;> rfl
    show (if (rwStep g s r).2 = true then rwStep g s r else rwRun g rs (rwStep g s r).1).1.1 = s.1
    split
    · exact e
    · rw [ih, e]
