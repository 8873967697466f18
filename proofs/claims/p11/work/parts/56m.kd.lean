/-! ===== kindestAt(): the row whose last is the least ===== -/
theorem lastN_cons {d : Nat} {r : List Nat} (h : ¬ r = []) : lastN (d :: r) = lastN r := by
  cases r with
  | nil => exact absurd rfl h
  | cons x r => rfl
/-- the rows that end with a slice -/
def lsF (L : Nat) : List (List Nat) → List (List Nat)
  | [] => []
  | r :: rs => if lastN r = L then r :: lsF L rs else lsF L rs
theorem lsF_c {L : Nat} {r : List Nat} {rs : List (List Nat)} : lsF L (r :: rs) = if lastN r = L then r :: lsF L rs else lsF L rs := rfl
theorem lsF_app {L : Nat} {b : List (List Nat)} : ∀ a : List (List Nat), lsF L (a ++ b) = lsF L a ++ lsF L b := by
  intro a
  induction a with
  | nil => rfl
  | cons r a ih =>
    show (if lastN r = L then r :: lsF L (a ++ b) else lsF L (a ++ b)) = (if lastN r = L then r :: lsF L a else lsF L a) ++ lsF L b
    rw [ih]
    split <;> rfl
theorem lsF_none {L : Nat} : ∀ rs : List (List Nat), (∀ r, r ∈ rs → ¬ lastN r = L) → lsF L rs = [] := by
  intro rs
  induction rs with
  | nil => intro _; rfl
  | cons r rs ih =>
    intro h
    rw [lsF_c, if_neg (h r (List.mem_cons_self ..))]
    exact ih (fun r2 h2 => h r2 (List.mem_cons_of_mem _ h2))
theorem lsF_ex {L : Nat} : ∀ rs : List (List Nat), lsF L rs = [] → ∀ r, r ∈ rs → ¬ lastN r = L := by
  intro rs
  induction rs with
  | nil => intro _ r h; cases h
  | cons r rs ih =>
    intro h r2 h2
    rw [lsF_c] at h
    by_cases q : lastN r = L
    · rw [if_pos q] at h; cases h
    · rw [if_neg q] at h
      rcases List.mem_cons.mp h2 with e | e
      · rw [e]; exact q
      · exact ih h r2 e
theorem lsF_map {L d : Nat} : ∀ rs : List (List Nat), (∀ r, r ∈ rs → ¬ r = []) → lsF L (rs.map fun r => d :: r) = (lsF L rs).map fun r => d :: r := by
  intro rs
  induction rs with
  | nil => intro _; rfl
  | cons r rs ih =>
    intro h
    have e := lastN_cons (d := d) (h r (List.mem_cons_self ..))
    have ih2 := ih (fun r2 h2 => h r2 (List.mem_cons_of_mem _ h2))
    show (if lastN (d :: r) = L then (d :: r) :: lsF L (rs.map fun r => d :: r) else lsF L (rs.map fun r => d :: r)) = (if lastN r = L then r :: lsF L rs else lsF L rs).map fun r => d :: r
    rw [e, ih2]
    split <;> rfl
theorem rws_ne {S : Nat → Bool} {f k : Nat} {l : Int} {r : List Nat} (hf : f ≤ 30) (h : r ∈ rws S f (k + 1) l) : ¬ r = [] := fun q => by
  have := (rws_mem f (k + 1) l r hf h).1
  rw [q] at this
  cases this
theorem rws_last {S : Nat → Bool} {f k : Nat} {l : Int} {r : List Nat} (hf : f ≤ 30) (h : r ∈ rws S f (k + 1) l) : 31 - f ≤ lastN r ∧ lastN r ≤ 30 := by
  cases r with
  | nil => exact absurd rfl (rws_ne hf h)
  | cons x r => exact (rws_mem f (k + 1) l _ hf h).2 _ lastN_mem
theorem rws_S {S : Nat → Bool} : ∀ (f k : Nat) (l : Int) (r : List Nat), f ≤ 30 → r ∈ rws S f k l → ∀ x, x ∈ r → S x = true := by
  intro f
  induction f with
  | zero =>
    intro k l r hf h x hx
    cases k with
    | zero =>
      rw [rws_0] at h
      split at h
      · rw [List.mem_singleton.mp h] at hx; cases hx
      · cases h
    | succ k => cases h
  | succ f ih =>
    intro k l r hf h x hx
    cases k with
    | zero =>
      rw [rws_0] at h
      split at h
      · rw [List.mem_singleton.mp h] at hx; cases hx
      · cases h
    | succ k =>
      rw [rws_s] at h
      rcases List.mem_append.mp h with h | h
      · split at h
        · rename_i hS
          obtain ⟨r2, h2, rfl⟩ := List.mem_map.mp h
          rcases List.mem_cons.mp hx with rfl | hx
          · exact hS
          · exact ih k _ r2 (by omega) h2 x hx
        · cases h
      · exact ih (k + 1) l r (by omega) h x hx
theorem lsF_rws {A : Int32} {L : Nat} (hL : L ≤ 30) (hS : SA A L = true) : ∀ (f k : Nat) (l : Int), f ≤ 30 → 31 - f ≤ L → lsF L (rws (SA A) f (k + 1) l) = (rws (SB A L) f k (l - pt L)).map fun r => r ++ [L] := by
  intro f
  induction f with
  | zero => intro k l hf h; omega
  | succ f ih =>
    intro k l hf h
    rw [rws_s, lsF_app]
    by_cases q : L = 30 - f
    · have e2 : lsF L (rws (SA A) f (k + 1) l) = [] := lsF_none _ (fun r hr => by have := rws_last (by omega) hr; omega)
      rw [e2, List.append_nil, ← q, if_pos hS]
      cases k with
      | zero =>
        rw [rws_0, rws_0]
        by_cases z : l - pt L = 0
        · rw [if_pos z]
          show (if lastN [L] = L then [L] :: lsF L [] else lsF L []) = _
          rw [if_pos (show lastN [L] = L from rfl)]
          rfl
        · rw [if_neg z]; rfl
      | succ k =>
        have e1 : lsF L ((rws (SA A) f (k + 1) (l - pt L)).map fun r => L :: r) = [] := lsF_none _ (fun r hr => by
          obtain ⟨r2, h2, rfl⟩ := List.mem_map.mp hr
          rw [lastN_cons (rws_ne (by omega) h2)]
          have := rws_last (by omega) h2
          omega)
        rw [e1, rws_none (f + 1) k _ hf (fun x h1 h2 => by unfold SB; rw [decide_eq_false (by omega), Bool.and_false])]
        rfl
    · have hL2 : 31 - f ≤ L := by omega
      have hlt : 30 - f < L := by omega
      rw [ih k l (by omega) hL2]
      cases k with
      | zero =>
        have e1 : lsF L (if SA A (30 - f) = true then (rws (SA A) f 0 (l - pt (30 - f))).map (fun r => (30 - f) :: r) else []) = [] := by
          split
          · rw [rws_0]
            split
            · exact lsF_none _ (fun r hr => by
                rw [List.mem_singleton.mp hr]
                show ¬ 30 - f = L
                omega)
            · rfl
          · rfl
        rw [e1, List.nil_append, rws_0, rws_0]
      | succ k =>
        by_cases hS2 : SA A (30 - f) = true
        · have hB : SB A L (30 - f) = true := by
            unfold SB
            rw [decide_eq_true hlt, Bool.and_true]; exact hS2
          rw [if_pos hS2, lsF_map _ (fun r hr => rws_ne (by omega) hr), ih k (l - pt (30 - f)) (by omega) hL2, rws_s (S := SB A L), if_pos hB, List.map_append, List.map_map, List.map_map, show l - pt (30 - f) - pt L = l - pt L - pt (30 - f) from by omega]
          rfl
        · have hB : ¬ SB A L (30 - f) = true := by
            unfold SB
            rw [decide_eq_true hlt, Bool.and_true]; exact hS2
          rw [if_neg hS2, rws_s (S := SB A L), if_neg hB]
          rfl
theorem rwS2 {s : RwS} {r : List Nat} : (rwStep 2 s r).2 = false ∧ (rwStep 2 s r).1 = if lastN r < s.1 then (lastN r, r, s.2.2.1, s.2.2.2) else s := by
  unfold rwStep
  rw [if_neg (by decide), if_neg (by decide)]
  split
  · exact ⟨rfl, rfl⟩
  · exact ⟨rfl, rfl⟩
theorem rwRun2_c {s : RwS} {r : List Nat} {rs : List (List Nat)} : rwRun 2 (r :: rs) s = rwRun 2 rs (if lastN r < s.1 then (lastN r, r, s.2.2.1, s.2.2.2) else s) := by
  show (if (rwStep 2 s r).2 = true then rwStep 2 s r else rwRun 2 rs (rwStep 2 s r).1) = _
  rw [rwS2.1, if_neg Bool.false_ne_true, rwS2.2]
theorem rwRun2_f : ∀ (rs : List (List Nat)) (s : RwS), (rwRun 2 rs s).2 = false := by
  intro rs
  induction rs with
  | nil => intro s; rfl
  | cons r rs ih => intro s; rw [rwRun2_c]; exact ih _
theorem rwRun2_len : ∀ (rs : List (List Nat)) (s : RwS), (∀ r, r ∈ rs → r.length ≤ 5) → s.2.1.length ≤ 5 → (rwRun 2 rs s).1.2.1.length ≤ 5 := by
  intro rs
  induction rs with
  | nil => intro s _ h; exact h
  | cons r rs ih =>
    intro s h h2
    rw [rwRun2_c]
    refine ih _ (fun r2 hr => h r2 (List.mem_cons_of_mem _ hr)) ?_
    split
    · exact h r (List.mem_cons_self ..)
    · exact h2
theorem rwRun2_min {L : Nat} {r0 : List Nat} : ∀ (rs : List (List Nat)) (s : RwS), (∀ r, r ∈ rs → L ≤ lastN r) → L < s.1 → (lsF L rs).head? = some r0 → (rwRun 2 rs s).1.2.1 = r0 := by
  intro rs
  induction rs with
  | nil => intro s _ _ h; cases h
  | cons r rs ih =>
    intro s hge hlt hh
    have h1 := hge r (List.mem_cons_self ..)
    have h2 : ∀ r2, r2 ∈ rs → L ≤ lastN r2 := fun r2 hr => hge r2 (List.mem_cons_of_mem _ hr)
    rw [rwRun2_c]
    rw [lsF_c] at hh
    by_cases q2 : lastN r = L
    · rw [if_pos q2] at hh
      have e : r = r0 := Option.some.inj hh
      rw [if_pos (by omega), rwRun_skip rs (fun r2 hr => by have := h2 r2 hr; show ¬ lastN r2 < lastN r; omega)]
      exact e
    · rw [if_neg q2] at hh
      split
      · exact ih _ h2 (by show L < lastN r; omega) hh
      · exact ih _ h2 hlt hh
/-- all rows of n and more, up to five -/
def kdL (S : Nat → Bool) (l : Int) : Nat → Nat → List (List Nat)
  | 0, _ => []
  | f + 1, n => rws S 30 n l ++ kdL S l f (n + 1)
theorem kdL_mem {S : Nat → Bool} {l : Int} {r : List Nat} : ∀ f n, r ∈ kdL S l f n → ∃ m, n ≤ m ∧ m < n + f ∧ r ∈ rws S 30 m l := by
  intro f
  induction f with
  | zero => intro n h; cases h
  | succ f ih =>
    intro n h
    rcases List.mem_append.mp h with h | h
    · exact ⟨n, Nat.le_refl _, by omega, h⟩
    · obtain ⟨m, a, b, c⟩ := ih (n + 1) h
      exact ⟨m, by omega, by omega, c⟩
/-- the first row of the fewest with a last one -/
def kdN (A : Int32) (l : Int) (L : Nat) : Nat → Nat → Option (List Nat)
  | 0, _ => none
  | f + 1, n => match rws (SB A L) 30 (n - 1) (l - pt L) with
    | [] => kdN A l L f (n + 1)
    | r :: _ => some (r ++ [L])
theorem kdN_n {A : Int32} {l : Int} {L f n : Nat} (h : rws (SB A L) 30 (n - 1) (l - pt L) = []) : kdN A l L (f + 1) n = kdN A l L f (n + 1) := by
  show (match rws (SB A L) 30 (n - 1) (l - pt L) with
    | [] => kdN A l L f (n + 1)
    | r :: _ => some (r ++ [L])) = _
  rw [h]
theorem kdN_c {A : Int32} {l : Int} {L f n : Nat} {r : List Nat} {rs : List (List Nat)} (h : rws (SB A L) 30 (n - 1) (l - pt L) = r :: rs) : kdN A l L (f + 1) n = some (r ++ [L]) := by
  show (match rws (SB A L) 30 (n - 1) (l - pt L) with
    | [] => kdN A l L f (n + 1)
    | r :: _ => some (r ++ [L])) = _
  rw [h]
def kdM : Option (List Nat) → Option (List Nat) → Option (List Nat)
  | some r, _ => some r
  | none, z => z
def kdP (A : Int32) (l : Int) : Nat → Option (List Nat)
  | 0 => none
  | f + 1 => if SA A (30 - f) = true then (kdM (kdN A l (30 - f) 5 1) (kdP A l f)) else kdP A l f
theorem lsF_kd {A : Int32} {l : Int} {L : Nat} (h1 : 1 ≤ L) (hL : L ≤ 30) (hS : SA A L = true) : ∀ f n, 1 ≤ n → (lsF L (kdL (SA A) l f n)).head? = kdN A l L f n := by
  intro f
  induction f with
  | zero => intro n _; rfl
  | succ f ih =>
    intro n hn
    show (lsF L (rws (SA A) 30 n l ++ kdL (SA A) l f (n + 1))).head? = _
    obtain ⟨k, rfl⟩ : ∃ k, n = k + 1 := ⟨n - 1, by omega⟩
    rw [lsF_app, lsF_rws hL hS 30 k l (by decide) (by omega)]
    cases q : rws (SB A L) 30 k (l - pt L) with
    | nil =>
      rw [kdN_n (n := k + 1) q]
      exact ih (k + 1 + 1) (by omega)
    | cons r rs =>
      rw [kdN_c (n := k + 1) q]
      rfl
def kdO (r : List Nat) : Option (List Nat) := if r = [] then none else some r
theorem kd_eq {A : Int32} {l : Int} : kdO (rwRun 2 (kdL (SA A) l 5 1) s0R).1.2.1 = kdP A l 30 := by
  have hm : ∀ r, r ∈ kdL (SA A) l 5 1 → 1 ≤ lastN r ∧ lastN r ≤ 30 ∧ SA A (lastN r) = true := fun r hr => by
    obtain ⟨m, a, b, c⟩ := kdL_mem 5 1 hr
    obtain ⟨k, rfl⟩ : ∃ k, m = k + 1 := ⟨m - 1, by omega⟩
    have h1 := rws_last (by decide) c
    refine ⟨by omega, h1.2, ?_⟩
    cases r with
    | nil => exact absurd rfl (rws_ne (by decide) c)
    | cons x r => exact rws_S 30 (k + 1) l _ (by decide) c _ lastN_mem
  generalize hR : kdL (SA A) l 5 1 = RR at hm
  have main : ∀ f, f ≤ 30 → (∀ r, r ∈ RR → 31 - f ≤ lastN r) → kdO (rwRun 2 RR s0R).1.2.1 = kdP A l f := by
    intro f
    induction f with
    | zero =>
      intro _ h
      cases RR with
      | nil => rfl
      | cons r rs =>
        have a := h r (List.mem_cons_self ..)
        have b := (hm r (List.mem_cons_self ..)).2.1
        omega
    | succ f ih =>
      intro hf h
      have d1 : 1 ≤ 30 - f := by omega
      by_cases hS : SA A (30 - f) = true
      · have hk := lsF_kd (l := l) d1 (by omega) hS 5 1 (by decide)
        rw [hR] at hk
        show _ = if SA A (30 - f) = true then (kdM (kdN A l (30 - f) 5 1) (kdP A l f)) else kdP A l f
        rw [if_pos hS]
        cases q : kdN A l (30 - f) 5 1 with
        | some r0 =>
          rw [q] at hk
          rw [rwRun2_min RR s0R (fun r hr => by have := h r hr; omega) (by show 30 - f < 31; omega) hk]
          have hne : ¬ r0 = [] := fun z => by
            have hmem : r0 ∈ RR := by
              have : ∀ rs : List (List Nat), (lsF (30 - f) rs).head? = some r0 → r0 ∈ rs := by
                intro rs
                induction rs with
                | nil => intro h; cases h
                | cons r rs ih2 =>
                  intro h
                  rw [lsF_c] at h
                  by_cases q3 : lastN r = 30 - f
                  · rw [if_pos q3] at h
                    have e : r = r0 := Option.some.inj h
                    rw [e]; exact List.mem_cons_self ..
                  · rw [if_neg q3] at h
                    exact List.mem_cons_of_mem _ (ih2 h)
              exact this RR hk
            have := (hm r0 hmem).1
            rw [z] at this
            exact absurd this (by decide)
          exact if_neg hne
        | none =>
          rw [q] at hk
          have hno := lsF_ex RR (List.head?_eq_none_iff.mp hk)
          exact ih (by omega) (fun r hr => by have a := h r hr; have b := hno r hr; omega)
      · show _ = if SA A (30 - f) = true then (kdM (kdN A l (30 - f) 5 1) (kdP A l f)) else kdP A l f
        rw [if_neg hS]
        refine ih (by omega) (fun r hr => ?_)
        have a := h r hr
        have b := (hm r hr).2.2
        have c : ¬ lastN r = 30 - f := fun z => hS (by rw [← z]; exact b)
        omega
  exact main 30 (by decide) (fun r hr => (hm r hr).1)
theorem kdN_len {A : Int32} {l : Int} {L : Nat} {r : List Nat} : ∀ f n, 1 ≤ n → kdN A l L f n = some r → 1 ≤ r.length ∧ r.length < n + f := by
  intro f
  induction f with
  | zero => intro n _ h; cases h
  | succ f ih =>
    intro n hn h
    cases q : rws (SB A L) 30 (n - 1) (l - pt L) with
    | nil =>
      rw [kdN_n q] at h
      have := ih (n + 1) (by omega) h
      omega
    | cons r2 rs =>
      rw [kdN_c q] at h
      have e : r2 ++ [L] = r := Option.some.inj h
      have := (rws_mem 30 (n - 1) _ r2 (by decide) (by rw [q]; exact List.mem_cons_self ..)).1
      rw [← e, List.length_append]
      show 1 ≤ r2.length + 1 ∧ r2.length + 1 < n + (f + 1)
      omega
theorem kdP_len {A : Int32} {l : Int} {r : List Nat} : ∀ f, kdP A l f = some r → r.length ≤ 5 := by
  intro f
  induction f with
  | zero => intro h; cases h
  | succ f ih =>
    intro h
    have h2 : (if SA A (30 - f) = true then (kdM (kdN A l (30 - f) 5 1) (kdP A l f)) else kdP A l f) = some r := h
    by_cases hS : SA A (30 - f) = true
    · rw [if_pos hS] at h2
      cases q : kdN A l (30 - f) 5 1 with
      | some r0 =>
        rw [q] at h2
        have e : r0 = r := Option.some.inj h2
        subst e
        have := (kdN_len 5 1 (by decide) q).2
        omega
      | none => rw [q] at h2; exact ih h2
    · rw [if_neg hS] at h2; exact ih h2
theorem shL_c {p q : Int32} (h : sh p q) : shL p q ≤ 900000000000000 := by
  obtain ⟨⟨p1, p2⟩, q1, q2⟩ := h
  obtain ⟨-, n1, n2⟩ := sl_n q1 q2
  rw [le_i] at p1 p2
  have e1 : (1 : Int32).toInt = 1 := rfl
  have e99 : (99 : Int32).toInt = 99 := rfl
  obtain ⟨b1, b2, -⟩ := pt_b n1 n2
  unfold shL
  have k2 : pt q.toInt.toNat * p.toInt ≤ 2329089562800 * 99 := Int.mul_le_mul b2 (by omega) (by omega) (by decide)
  omega
section KDS
variable {I : Im} {J : Jm} {R : Rm} {Q : Qt}
theorem px_findKindest {d : Nat} {A : Int32} {v : Int64} {l : Int} (hv : v.toInt = l) (hl : -1000000000000000 ≤ l ∧ l ≤ 1000000000000000) (hQ : ∀ I2, (∀ r, kdP A l 30 = some r → I2 35 5 = nI r.length ∧ ∀ i, i < r.length → I2 37 i = nI (r.getD i 0)) → FrO I J I2 J → Q (bl (kdP A l 30).isSome) 0 I2 J R) : AM (d + 10) 77 112 [.ref 35, .int A, .long v] I J R Q := by
  refine am_X7_findKindest (fun P hc => sg_X7_findKindest_0 hc _ _ _ _ _ ?_)
  refine px_begin (g := 2) (by decide) (fun I1 h0 hF1 => ?_)
  have z0 : (0 : Int32).toInt = 0 := rfl
  have L9 : ∀ (f n : Nat) (M : Im) (s : RwS), n + f = 6 → 1 ≤ n → (∀ z, RwI 2 A z s (uI M 35 2 (nI z))) → FrO I J M J → (rwRun 2 (kdL (SA A) l f n) s).1.2.1.length ≤ 5 → kdO (rwRun 2 (kdL (SA A) l f n) s).1.2.1 = kdP A l 30 → P 9 112 [(0, .ref 35), (2, .long v), (4, .int (nI n))] [] M J R := by
    intro f
    induction f with
    | zero =>
      intro n M s hn h1 h0 hF hlen hk
      have a := h0 0
      have e5 : M 35 5 = nI s.2.1.length := by
        have := a.2.2.2.1
        rw [rd_k (by decide)] at this
        exact this
      have e7 : ∀ i, i < s.2.1.length → M 37 i = nI (s.2.1.getD i 0) := fun i hi => by
        have := a.2.2.2.2.1 i hi
        rw [rd_ne (by decide)] at this
        exact this
      have hlen2 : s.2.1.length ≤ 5 := hlen
      have hk2 : kdO s.2.1 = kdP A l 30 := hk
      have et : (M 35 5).toInt = (s.2.1.length : Int) := by rw [e5]; exact nI_toInt (by omega)
      have fin := hQ M (fun r hr => by
        rw [← hk2] at hr
        unfold kdO at hr
        by_cases q : s.2.1 = []
        · rw [if_pos q] at hr; cases hr
        · rw [if_neg q] at hr
          have e : s.2.1 = r := Option.some.inj hr
          rw [← e]; exact ⟨e5, e7⟩) hF
      rw [← hk2] at fin
      refine sg_X7_findKindest_9 hc _ _ _ _ _ ⟨fun _ => ⟨fun c => ⟨Or.inl rfl, ?_⟩, fun c => ⟨Or.inr rfl, ?_⟩⟩, fun c => absurd ((nlt_nI (a := 5) (by omega) (by omega)).mpr (by omega)) c⟩
      · rw [le_i, et, z0] at c
        have e : s.2.1 = [] := List.eq_nil_of_length_eq_zero (by omega)
        unfold kdO at fin
        rw [if_pos e] at fin; exact fin
      · rw [le_i, et, z0] at c
        have e : ¬ s.2.1 = [] := fun q => by rw [q] at c; exact absurd (Int.le_refl 0) c
        unfold kdO at fin
        rw [if_neg e] at fin; exact fin
    | succ f ih =>
      intro n M s hn h1 h0 hF hlen hk
      obtain ⟨k, rfl⟩ : ∃ k, n = k + 1 := ⟨n - 1, by omega⟩
      refine sg_X7_findKindest_9 hc _ _ _ _ _ ⟨fun c => absurd ((nlt_nI (a := 5) (by omega) (by omega)).mp c) (by omega), fun _ => ?_⟩
      have e9 : d + 9 = (d + (4 - k)) + k + 5 := by omega
      rw [e9]
      refine px_seekRows (g := 2) (A := A) (by omega) hv hl (h0 (k + 1)) (fun I2 a c _ => ?_)
      rw [nI_k1]
      have er : rwRun 2 (kdL (SA A) l (f + 1) (k + 1)) s = rwRun 2 (kdL (SA A) l f (k + 1 + 1)) (rwRun 2 (rws (SA A) 30 (k + 1) l) s).1 := by
        show rwRun 2 (rws (SA A) 30 (k + 1) l ++ kdL (SA A) l f (k + 1 + 1)) s = _
        rw [rwRun_app, rwRun2_f, if_neg Bool.false_ne_true]
      rw [er] at hlen hk
      exact ih (k + 1 + 1) I2 _ (by omega) (by omega) (fun z => RwI_z a) (hF.tr c) hlen hk
  refine L9 5 1 I1 s0R (by decide) (by decide) h0 hF1 (rwRun2_len _ _ (fun r hr => ?_) (Nat.zero_le _)) kd_eq
  obtain ⟨m, a, b, c⟩ := kdL_mem 5 1 hr
  have := (rws_mem 30 m l r (by decide) c).1
  omega
theorem cx_kindestAt {d : Nat} {p q k : Int32} (hR : RI R) : AM (d + 12) 132 112 [.ref 1, .int p, .int q, .int k] I J R (fun x _ _ _ _ => Cs (sh p q) (atO k (kdP (I (R 1 7) 2) (shL p q) 30)) x) := by
  have hO := hR.now.1
  refine w_X11_kindestAt (px_isShare (fun hs _ => ⟨fun _ => ⟨hR.now.2, bif_t hO (px_crumbs hs (fun y hy => ?_))⟩, fun z => absurd z (by decide)⟩) (fun hs _ => ⟨fun z => absurd rfl z, fun _ => w_X11_refuse (Or.inr ⟨hs, rfl⟩)⟩))
  have hb := shL_b hs
  exact px_findKindest hy (by omega) (fun I2 h c _ => px_answerSlice h (fun r => kdP_len 30) (fun I3 => Or.inl ⟨hs, rfl⟩))
theorem px_kindestOf {d : Nat} {v1 : Int64} {l : Int} (hA : 0 ≤ (I 102 3).toInt) (hv : v1.toInt = l) (hl : 0 ≤ l ∧ l ≤ 900000000000000) (hQ : ∀ I2, (∀ r, kdP (I 102 3) l 30 = some r → ∀ i, i < r.length → I2 106 i = nI (r.getD i 0)) → Q (lnO (kdP (I 102 3) l 30)) 0 I2 J R) : AM (d + 10) 280 112 [.ref 97, .long v1] I J R Q := by
  have t3 : Int32.toNatClampNeg 3 = 3 := rfl
  refine am_X12_kindestOf (fun P hc => sg_X12_kindestOf_0 hc _ _ _ _ ?_)
  have L2 : ∀ (f : Nat) (M : Im), f ≤ 30 → M 102 = I 102 → (∀ I2, (∀ r, kdP (I 102 3) l f = some r → ∀ i, i < r.length → I2 106 i = nI (r.getD i 0)) → Q (lnO (kdP (I 102 3) l f)) 0 I2 J R) → P 2 112 [(0, .ref 97), (1, .long v1), (3, .int (nI (31 - f)))] [] M J R := by
    intro f
    induction f with
    | zero =>
      intro M hf hM hQ
      exact sg_X12_kindestOf_2 hc _ _ _ _ _ ⟨fun _ => hQ M (fun r h => by cases h), fun c => absurd ((nlt_nI (a := 30) (b := 31 - 0) (by omega) (by omega)).mpr (by omega)) c⟩
    | succ f ih =>
      intro M hf hM hQ
      have ed : 31 - (f + 1) = 30 - f := by omega
      have d1 : 1 ≤ 30 - f := by omega
      have d2 : 30 - f ≤ 30 := by omega
      obtain ⟨p1, p2, -⟩ := pt_b (d := 30 - f) d1 d2
      have nx : nI (30 - f) + 1 = nI (31 - f) := by rw [nI_k1]; exact congrArg nI (by omega)
      rw [ed]
      have eP : kdP (I 102 3) l (f + 1) = if SA (I 102 3) (30 - f) = true then (kdM (kdN (I 102 3) l (30 - f) 5 1) (kdP (I 102 3) l f)) else kdP (I 102 3) l f := rfl
      rw [eP] at hQ
      refine sg_X12_kindestOf_2 hc _ _ _ _ _ ⟨fun c => absurd ((nlt_nI (a := 30) (by omega) (by omega)).mp c) (by omega), fun _ => ⟨vp_of (a := 3) rfl (by decide) (by decide), ?_⟩⟩
      rw [t3, hM]
      refine px_isOf hA ((nle_nI (a := 1) (by omega) (by omega)).mpr d1) ((nle_nI (b := 30) (by omega) (by omega)).mpr d2) (fun hi _ => ⟨fun _ => ?_, fun z => absurd z (by decide)⟩) (fun hi _ => ⟨fun z => absurd rfl z, fun _ => ?_⟩)
      · have hS : SA (I 102 3) (30 - f) = true := hi
        rw [if_pos hS] at hQ
        have L29 : ∀ (g n : Nat) (M : Im), n + g = 6 → 1 ≤ n → M 102 = I 102 → (∀ I2, (∀ r, (kdM (kdN (I 102 3) l (30 - f) g n) (kdP (I 102 3) l f)) = some r → ∀ i, i < r.length → I2 106 i = nI (r.getD i 0)) → Q (lnO (kdM (kdN (I 102 3) l (30 - f) g n) (kdP (I 102 3) l f))) 0 I2 J R) → P 29 112 [(0, .ref 97), (1, .long v1), (3, .int (nI (30 - f))), (4, .int (nI n))] [] M J R := by
          intro g
          induction g with
          | zero =>
            intro n M hn h1 hM hQ
            refine sg_X12_kindestOf_29 hc _ _ _ _ _ _ ⟨fun _ => ?_, fun c => absurd ((nlt_nI (a := 5) (by omega) (by omega)).mpr (by omega)) c⟩
            rw [nx]
            exact ih M (by omega) hM hQ
          | succ g ihg =>
            intro n M hn h1 hM hQ
            refine sg_X12_kindestOf_29 hc _ _ _ _ _ _ ⟨fun c => absurd ((nlt_nI (a := 5) (by omega) (by omega)).mp c) (by omega), fun _ => px_parts d1 d2 (fun y hy => ⟨vp_of (a := 3) rfl (by decide) (by decide), ?_⟩)⟩
            have en : nI n - 1 = nI (n - 1) := nI_sub (b := 1) (by omega) h1
            rw [t3, hM, en]
            have hv' : (v1 - y).toInt = l - pt (30 - f) := tl_sub hv hy (by omega)
            have e9 : d + 9 = (d + (7 - n)) + (n - 1) + 3 := by omega
            rw [e9]
            refine px_laysRows (b := 30 - f) hA (by omega) (by omega) hv' (by omega) (fun I2 a c _ => ?_)
            have hM2 : I2 102 = I 102 := (c.c (fun k z => by rcases z with ⟨z, -⟩ | z | z | z <;> exact absurd z (by decide))).trans hM
            cases q : rws (SB (I 102 3) (30 - f)) 30 (n - 1) (l - pt (30 - f)) with
            | nil =>
              rw [kdN_n q] at hQ
              refine ⟨fun z => absurd rfl z, fun _ => ?_⟩
              rw [nI_k1]
              exact ihg (n + 1) I2 (by omega) (by omega) hM2 hQ
            | cons r rs =>
              rw [q] at a
              rw [kdN_c q] at hQ
              have hr := (rws_mem 30 (n - 1) _ r (by decide) (by rw [q]; exact List.mem_cons_self ..)).1
              have e1 : (rfRun (r :: rs) (0, [], fun _ => 0)).2.1 = r := rfRun_c rfl
              have a2 := a.2.1
              rw [e1] at a2
              have ln : (r ++ [30 - f]).length = n := by
                rw [List.length_append, hr]
                show n - 1 + 1 = n
                omega
              refine ⟨fun _ => ⟨vp_nI (by omega) (by omega), ?_⟩, fun z => absurd (show (1 : Int32) = 0 from z) (by decide)⟩
              rw [tn_nI (by omega)]
              have key := hQ (uI I2 106 (n - 1) (nI (30 - f))) (fun r2 h2 i hi => by
                have e : r ++ [30 - f] = r2 := Option.some.inj h2
                subst e
                rw [ln] at hi
                by_cases qi : i = n - 1
                · subst qi
                  rw [rd_eq, List.getD_eq_getElem?_getD, ← hr, List.getElem?_append_right (Nat.le_refl _), Nat.sub_self]; rfl
                · have hi2 : i < r.length := by omega
                  rw [rd_k qi, a2 i hi2, List.getD_eq_getElem?_getD, List.getD_eq_getElem?_getD, List.getElem?_append_left hi2])
              have el : lnO (some (r ++ [30 - f])) = nI n := congrArg nI ln
              have key2 : Q (lnO (some (r ++ [30 - f]))) 0 (uI I2 106 (n - 1) (nI (30 - f))) J R := key
              rw [el] at key2
              exact key2
        exact L29 5 1 M (by decide) (by decide) hM hQ
      · have hS : ¬ SA (I 102 3) (30 - f) = true := by
          have hi2 : SA (I 102 3) (30 - f) = false := hi
          rw [hi2]; exact Bool.false_ne_true
        rw [if_neg hS] at hQ
        rw [nx]
        exact ih M (by omega) hM hQ
  exact L2 30 I (by decide) rfl hQ
theorem mx_kindestAt {d : Nat} {p q k : Int32} (hB : Bd I) : AM (d + 13) 281 112 [.ref 97, .int p, .int q, .int k] I J R (fun x _ _ _ _ => Cs (sh p q) (atO k (kdP (I 102 3) (shL p q) 30)) x) := by
  have e102 : uI (uI I 97 1 0) 97 0 0 102 = I 102 := (uI_ne (by decide)).trans (uI_ne (by decide))
  refine w_X12_kindestAt (px_mShare (fun hs _ => ⟨fun _ => px_shareOf hs (fun y hy => ?_), fun z => absurd z (by decide)⟩) (fun hs _ => ⟨fun z => absurd rfl z, fun _ => w_X12_refuse (Or.inr ⟨hs, rfl⟩)⟩))
  have hb := shL_b hs
  have hb2 := shL_c hs
  refine px_kindestOf (by rw [e102]; exact Bd.known0 hB) hy (by omega) (fun I4 h => ?_)
  rw [e102] at h
  rw [e102]
  have z0 : (0 : Int32).toInt = 0 := rfl
  cases o : kdP (I 102 3) (shL p q) 30 with
  | none =>
    refine px_isInI (lo := 0) (hi := lnO none - 1) (fun l1 l2 _ => ?_) (fun _ _ => ⟨fun _ => w_X12_refuse (Or.inl ⟨hs, rfl⟩), fun z => absurd rfl z⟩)
    rw [le_i] at l1 l2
    have : (lnO none - 1 : Int32).toInt = -2 := rfl
    omega
  | some r =>
    have hl := kdP_len 30 o
    have e1 : (lnO (some r) - 1 : Int32).toInt = (r.length : Int) - 1 := ti_sub (nI_toInt (by omega)) (show (1 : Int32).toInt = 1 from rfl) (by omega)
    refine px_isInI (lo := 0) (hi := lnO (some r) - 1) (fun l1 l2 _ => ⟨fun z => absurd z (by decide), fun _ => ?_⟩) (fun n1 _ => ⟨fun _ => w_X12_refuse (Or.inl ⟨hs, ?_⟩), fun z => absurd rfl z⟩)
    · rw [le_i] at l1 l2
      have hk : 0 ≤ k.toInt ∧ k.toInt < r.length := by omega
      have hi : k.toNatClampNeg < r.length := by
        show k.toInt.toNat < r.length
        omega
      refine ⟨vp_of (a := k.toInt) rfl hk.1 (by omega), Or.inl ⟨hs, ?_⟩⟩
      rw [h r o _ hi, atO_y hk]
    · rw [atO_n]
      intro hk
      rcases n1 with n1 | n1
      · rw [Int32.lt_iff_toInt_lt] at n1; omega
      · rw [le_i] at n1; omega
end KDS
theorem KdX_both {K K2 p q k x x2 : Int32} (e : K2 = K) (h : Cs (sh p q) (atO k (kdP K (shL p q) 30)) x) (h2 : Cs (sh p q) (atO k (kdP K2 (shL p q) 30)) x2) : x2 = x := by
  rw [e] at h2; exact h.eq h2
