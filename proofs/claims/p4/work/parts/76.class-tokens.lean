/-! TOKENS: the class's way to the next one. -/
def kdc (x : Int32) : Nat := if isBl x = true then 4 else if isLt x = true then 1 else if isDg x = true then 2 else if x = 59 then 3 else 5
def ck (t : Nat) : Nat := if t = 4 then 5 else t
/-- only the reader differs -/
def FA (κ κ' : CS) : Prop := (∀ s, s ≠ 2 → κ'.1 s = κ.1 s) ∧ κ'.2 = κ.2
theorem FA.r {κ : CS} : FA κ κ := ⟨fun _ _ => rfl, rfl⟩
theorem FA.t {κ κ' κ'' : CS} (h : FA κ κ') (h' : FA κ' κ'') : FA κ κ'' := ⟨fun s hs => (h'.1 s hs).trans (h.1 s hs), h'.2.trans h.2⟩
theorem FA.f {κ : CS} {j : Nat} {x : Int32} : FA κ (cf κ 2 j x) := ⟨fun s hs => va_up_ne _ _ hs, rfl⟩
theorem FA.tc {κ κ' : CS} {T : TP} (h : FA κ κ') (hT : TC κ T) : TC κ' T := ⟨by rw [h.1 0 (by decide)]; exact hT.1, hT.2.1, fun i hi => by rw [h.2]; exact hT.2.2 i hi⟩
section CLX
variable {d : Nat} {M : AM} {κ κ' : CS} {T : TP} {Q : Option Value → AM → Prop}
theorem k_kindOf (x : Int32) : Ev d md_12 0 [some (.int x)] [] M (some (.int (nI (kdc x))), M) := by
  refine Wp.toEv ?_
  have e97 : (97 : Int32).toInt = 97 := rfl
  have e122 : (122 : Int32).toInt = 122 := rfl
  have e48 : (48 : Int32).toInt = 48 := rfl
  have e57 : (57 : Int32).toInt = 57 := rfl
  refine Wp.n (pc' := 3) 2 rfl ?_
  refine Wp.ic0 (tgt := 12) (len := 3) rfl (fun h3 => ?_) (fun h3 => ?_)
  · skip
    refine Wp.n (pc' := 13) 1 rfl ?_
    refine Wp.retI (len := 1) rfl rfl ?_
    refine ⟨?_, rfl⟩
    unfold kdc
    first
      | (have q : isBl x = true := decide_eq_true (by first | exact Or.inl h3 | exact Or.inr h9)
         rw [if_pos q]; rfl)
      | skip
    first
      | done
      | (have q : ¬ isBl x = true := fun z => by rcases of_decide_eq_true z with z | z; exact h3 z; exact h9 z
         rw [if_neg q])
    first
      | done
      | (have q1 : isLt x = true := decide_eq_true (by rw [i_lt] at h17 h23; omega)
         rw [if_pos q1]; rfl)
      | (have q1 : ¬ isLt x = true := fun z => by have := of_decide_eq_true z; rw [i_lt] at h17; omega
         rw [if_neg q1])
      | (have q1 : ¬ isLt x = true := fun z => by have := of_decide_eq_true z; rw [i_lt] at h23; omega
         rw [if_neg q1])
    first
      | done
      | (have q2 : isDg x = true := decide_eq_true (by rw [i_lt] at h31 h37; omega)
         rw [if_pos q2]; rfl)
      | (have q2 : ¬ isDg x = true := fun z => by have := of_decide_eq_true z; rw [i_lt] at h31; omega
         rw [if_neg q2])
      | (have q2 : ¬ isDg x = true := fun z => by have := of_decide_eq_true z; rw [i_lt] at h37; omega
         rw [if_neg q2])
    first
      | done
      | (rw [if_pos h45]; rfl)
      | (rw [if_neg h45]; rfl)
      | rfl
  · skip
    refine Wp.n (pc' := 9) 2 rfl ?_
    refine Wp.ic1 (tgt := 14) (len := 3) rfl (fun h9 => ?_) (fun h9 => ?_)
    · skip
      refine Wp.n (pc' := 17) 2 rfl ?_
      refine Wp.ic2 (tgt := 28) (len := 3) rfl (fun h17 => ?_) (fun h17 => ?_)
      · skip
        refine Wp.n (pc' := 31) 2 rfl ?_
        refine Wp.ic2 (tgt := 42) (len := 3) rfl (fun h31 => ?_) (fun h31 => ?_)
        · skip
          refine Wp.n (pc' := 45) 2 rfl ?_
          refine Wp.ic1 (tgt := 52) (len := 3) rfl (fun h45 => ?_) (fun h45 => ?_)
          · skip
            refine Wp.n (pc' := 53) 1 rfl ?_
            refine Wp.retI (len := 1) rfl rfl ?_
            refine ⟨?_, rfl⟩
            unfold kdc
            first
              | (have q : isBl x = true := decide_eq_true (by first | exact Or.inl h3 | exact Or.inr h9)
                 rw [if_pos q]; rfl)
              | skip
            first
              | done
              | (have q : ¬ isBl x = true := fun z => by rcases of_decide_eq_true z with z | z; exact h3 z; exact h9 z
                 rw [if_neg q])
            first
              | done
              | (have q1 : isLt x = true := decide_eq_true (by rw [i_lt] at h17 h23; omega)
                 rw [if_pos q1]; rfl)
              | (have q1 : ¬ isLt x = true := fun z => by have := of_decide_eq_true z; rw [i_lt] at h17; omega
                 rw [if_neg q1])
              | (have q1 : ¬ isLt x = true := fun z => by have := of_decide_eq_true z; rw [i_lt] at h23; omega
                 rw [if_neg q1])
            first
              | done
              | (have q2 : isDg x = true := decide_eq_true (by rw [i_lt] at h31 h37; omega)
                 rw [if_pos q2]; rfl)
              | (have q2 : ¬ isDg x = true := fun z => by have := of_decide_eq_true z; rw [i_lt] at h31; omega
                 rw [if_neg q2])
              | (have q2 : ¬ isDg x = true := fun z => by have := of_decide_eq_true z; rw [i_lt] at h37; omega
                 rw [if_neg q2])
            first
              | done
              | (rw [if_pos h45]; rfl)
              | (rw [if_neg h45]; rfl)
              | rfl
          · skip
            refine Wp.n (pc' := 53) 2 rfl ?_
            refine Wp.retI (len := 1) rfl rfl ?_
            refine ⟨?_, rfl⟩
            unfold kdc
            first
              | (have q : isBl x = true := decide_eq_true (by first | exact Or.inl h3 | exact Or.inr h9)
                 rw [if_pos q]; rfl)
              | skip
            first
              | done
              | (have q : ¬ isBl x = true := fun z => by rcases of_decide_eq_true z with z | z; exact h3 z; exact h9 z
                 rw [if_neg q])
            first
              | done
              | (have q1 : isLt x = true := decide_eq_true (by rw [i_lt] at h17 h23; omega)
                 rw [if_pos q1]; rfl)
              | (have q1 : ¬ isLt x = true := fun z => by have := of_decide_eq_true z; rw [i_lt] at h17; omega
                 rw [if_neg q1])
              | (have q1 : ¬ isLt x = true := fun z => by have := of_decide_eq_true z; rw [i_lt] at h23; omega
                 rw [if_neg q1])
            first
              | done
              | (have q2 : isDg x = true := decide_eq_true (by rw [i_lt] at h31 h37; omega)
                 rw [if_pos q2]; rfl)
              | (have q2 : ¬ isDg x = true := fun z => by have := of_decide_eq_true z; rw [i_lt] at h31; omega
                 rw [if_neg q2])
              | (have q2 : ¬ isDg x = true := fun z => by have := of_decide_eq_true z; rw [i_lt] at h37; omega
                 rw [if_neg q2])
            first
              | done
              | (rw [if_pos h45]; rfl)
              | (rw [if_neg h45]; rfl)
              | rfl
        · skip
          refine Wp.n (pc' := 37) 2 rfl ?_
          refine Wp.ic4 (tgt := 42) (len := 3) rfl (fun h37 => ?_) (fun h37 => ?_)
          · skip
            refine Wp.n (pc' := 45) 2 rfl ?_
            refine Wp.ic1 (tgt := 52) (len := 3) rfl (fun h45 => ?_) (fun h45 => ?_)
            · skip
              refine Wp.n (pc' := 53) 1 rfl ?_
              refine Wp.retI (len := 1) rfl rfl ?_
              refine ⟨?_, rfl⟩
              unfold kdc
              first
                | (have q : isBl x = true := decide_eq_true (by first | exact Or.inl h3 | exact Or.inr h9)
                   rw [if_pos q]; rfl)
                | skip
              first
                | done
                | (have q : ¬ isBl x = true := fun z => by rcases of_decide_eq_true z with z | z; exact h3 z; exact h9 z
                   rw [if_neg q])
              first
                | done
                | (have q1 : isLt x = true := decide_eq_true (by rw [i_lt] at h17 h23; omega)
                   rw [if_pos q1]; rfl)
                | (have q1 : ¬ isLt x = true := fun z => by have := of_decide_eq_true z; rw [i_lt] at h17; omega
                   rw [if_neg q1])
                | (have q1 : ¬ isLt x = true := fun z => by have := of_decide_eq_true z; rw [i_lt] at h23; omega
                   rw [if_neg q1])
              first
                | done
                | (have q2 : isDg x = true := decide_eq_true (by rw [i_lt] at h31 h37; omega)
                   rw [if_pos q2]; rfl)
                | (have q2 : ¬ isDg x = true := fun z => by have := of_decide_eq_true z; rw [i_lt] at h31; omega
                   rw [if_neg q2])
                | (have q2 : ¬ isDg x = true := fun z => by have := of_decide_eq_true z; rw [i_lt] at h37; omega
                   rw [if_neg q2])
              first
                | done
                | (rw [if_pos h45]; rfl)
                | (rw [if_neg h45]; rfl)
                | rfl
            · skip
              refine Wp.n (pc' := 53) 2 rfl ?_
              refine Wp.retI (len := 1) rfl rfl ?_
              refine ⟨?_, rfl⟩
              unfold kdc
              first
                | (have q : isBl x = true := decide_eq_true (by first | exact Or.inl h3 | exact Or.inr h9)
                   rw [if_pos q]; rfl)
                | skip
              first
                | done
                | (have q : ¬ isBl x = true := fun z => by rcases of_decide_eq_true z with z | z; exact h3 z; exact h9 z
                   rw [if_neg q])
              first
                | done
                | (have q1 : isLt x = true := decide_eq_true (by rw [i_lt] at h17 h23; omega)
                   rw [if_pos q1]; rfl)
                | (have q1 : ¬ isLt x = true := fun z => by have := of_decide_eq_true z; rw [i_lt] at h17; omega
                   rw [if_neg q1])
                | (have q1 : ¬ isLt x = true := fun z => by have := of_decide_eq_true z; rw [i_lt] at h23; omega
                   rw [if_neg q1])
              first
                | done
                | (have q2 : isDg x = true := decide_eq_true (by rw [i_lt] at h31 h37; omega)
                   rw [if_pos q2]; rfl)
                | (have q2 : ¬ isDg x = true := fun z => by have := of_decide_eq_true z; rw [i_lt] at h31; omega
                   rw [if_neg q2])
                | (have q2 : ¬ isDg x = true := fun z => by have := of_decide_eq_true z; rw [i_lt] at h37; omega
                   rw [if_neg q2])
              first
                | done
                | (rw [if_pos h45]; rfl)
                | (rw [if_neg h45]; rfl)
                | rfl
          · skip
            refine Wp.n (pc' := 41) 1 rfl ?_
            refine Wp.retI (len := 1) rfl rfl ?_
            refine ⟨?_, rfl⟩
            unfold kdc
            first
              | (have q : isBl x = true := decide_eq_true (by first | exact Or.inl h3 | exact Or.inr h9)
                 rw [if_pos q]; rfl)
              | skip
            first
              | done
              | (have q : ¬ isBl x = true := fun z => by rcases of_decide_eq_true z with z | z; exact h3 z; exact h9 z
                 rw [if_neg q])
            first
              | done
              | (have q1 : isLt x = true := decide_eq_true (by rw [i_lt] at h17 h23; omega)
                 rw [if_pos q1]; rfl)
              | (have q1 : ¬ isLt x = true := fun z => by have := of_decide_eq_true z; rw [i_lt] at h17; omega
                 rw [if_neg q1])
              | (have q1 : ¬ isLt x = true := fun z => by have := of_decide_eq_true z; rw [i_lt] at h23; omega
                 rw [if_neg q1])
            first
              | done
              | (have q2 : isDg x = true := decide_eq_true (by rw [i_lt] at h31 h37; omega)
                 rw [if_pos q2]; rfl)
              | (have q2 : ¬ isDg x = true := fun z => by have := of_decide_eq_true z; rw [i_lt] at h31; omega
                 rw [if_neg q2])
              | (have q2 : ¬ isDg x = true := fun z => by have := of_decide_eq_true z; rw [i_lt] at h37; omega
                 rw [if_neg q2])
            first
              | done
              | (rw [if_pos h45]; rfl)
              | (rw [if_neg h45]; rfl)
              | rfl
      · skip
        refine Wp.n (pc' := 23) 2 rfl ?_
        refine Wp.ic4 (tgt := 28) (len := 3) rfl (fun h23 => ?_) (fun h23 => ?_)
        · skip
          refine Wp.n (pc' := 31) 2 rfl ?_
          refine Wp.ic2 (tgt := 42) (len := 3) rfl (fun h31 => ?_) (fun h31 => ?_)
          · skip
            refine Wp.n (pc' := 45) 2 rfl ?_
            refine Wp.ic1 (tgt := 52) (len := 3) rfl (fun h45 => ?_) (fun h45 => ?_)
            · skip
              refine Wp.n (pc' := 53) 1 rfl ?_
              refine Wp.retI (len := 1) rfl rfl ?_
              refine ⟨?_, rfl⟩
              unfold kdc
              first
                | (have q : isBl x = true := decide_eq_true (by first | exact Or.inl h3 | exact Or.inr h9)
                   rw [if_pos q]; rfl)
                | skip
              first
                | done
                | (have q : ¬ isBl x = true := fun z => by rcases of_decide_eq_true z with z | z; exact h3 z; exact h9 z
                   rw [if_neg q])
              first
                | done
                | (have q1 : isLt x = true := decide_eq_true (by rw [i_lt] at h17 h23; omega)
                   rw [if_pos q1]; rfl)
                | (have q1 : ¬ isLt x = true := fun z => by have := of_decide_eq_true z; rw [i_lt] at h17; omega
                   rw [if_neg q1])
                | (have q1 : ¬ isLt x = true := fun z => by have := of_decide_eq_true z; rw [i_lt] at h23; omega
                   rw [if_neg q1])
              first
                | done
                | (have q2 : isDg x = true := decide_eq_true (by rw [i_lt] at h31 h37; omega)
                   rw [if_pos q2]; rfl)
                | (have q2 : ¬ isDg x = true := fun z => by have := of_decide_eq_true z; rw [i_lt] at h31; omega
                   rw [if_neg q2])
                | (have q2 : ¬ isDg x = true := fun z => by have := of_decide_eq_true z; rw [i_lt] at h37; omega
                   rw [if_neg q2])
              first
                | done
                | (rw [if_pos h45]; rfl)
                | (rw [if_neg h45]; rfl)
                | rfl
            · skip
              refine Wp.n (pc' := 53) 2 rfl ?_
              refine Wp.retI (len := 1) rfl rfl ?_
              refine ⟨?_, rfl⟩
              unfold kdc
              first
                | (have q : isBl x = true := decide_eq_true (by first | exact Or.inl h3 | exact Or.inr h9)
                   rw [if_pos q]; rfl)
                | skip
              first
                | done
                | (have q : ¬ isBl x = true := fun z => by rcases of_decide_eq_true z with z | z; exact h3 z; exact h9 z
                   rw [if_neg q])
              first
                | done
                | (have q1 : isLt x = true := decide_eq_true (by rw [i_lt] at h17 h23; omega)
                   rw [if_pos q1]; rfl)
                | (have q1 : ¬ isLt x = true := fun z => by have := of_decide_eq_true z; rw [i_lt] at h17; omega
                   rw [if_neg q1])
                | (have q1 : ¬ isLt x = true := fun z => by have := of_decide_eq_true z; rw [i_lt] at h23; omega
                   rw [if_neg q1])
              first
                | done
                | (have q2 : isDg x = true := decide_eq_true (by rw [i_lt] at h31 h37; omega)
                   rw [if_pos q2]; rfl)
                | (have q2 : ¬ isDg x = true := fun z => by have := of_decide_eq_true z; rw [i_lt] at h31; omega
                   rw [if_neg q2])
                | (have q2 : ¬ isDg x = true := fun z => by have := of_decide_eq_true z; rw [i_lt] at h37; omega
                   rw [if_neg q2])
              first
                | done
                | (rw [if_pos h45]; rfl)
                | (rw [if_neg h45]; rfl)
                | rfl
          · skip
            refine Wp.n (pc' := 37) 2 rfl ?_
            refine Wp.ic4 (tgt := 42) (len := 3) rfl (fun h37 => ?_) (fun h37 => ?_)
            · skip
              refine Wp.n (pc' := 45) 2 rfl ?_
              refine Wp.ic1 (tgt := 52) (len := 3) rfl (fun h45 => ?_) (fun h45 => ?_)
              · skip
                refine Wp.n (pc' := 53) 1 rfl ?_
                refine Wp.retI (len := 1) rfl rfl ?_
                refine ⟨?_, rfl⟩
                unfold kdc
                first
                  | (have q : isBl x = true := decide_eq_true (by first | exact Or.inl h3 | exact Or.inr h9)
                     rw [if_pos q]; rfl)
                  | skip
                first
                  | done
                  | (have q : ¬ isBl x = true := fun z => by rcases of_decide_eq_true z with z | z; exact h3 z; exact h9 z
                     rw [if_neg q])
                first
                  | done
                  | (have q1 : isLt x = true := decide_eq_true (by rw [i_lt] at h17 h23; omega)
                     rw [if_pos q1]; rfl)
                  | (have q1 : ¬ isLt x = true := fun z => by have := of_decide_eq_true z; rw [i_lt] at h17; omega
                     rw [if_neg q1])
                  | (have q1 : ¬ isLt x = true := fun z => by have := of_decide_eq_true z; rw [i_lt] at h23; omega
                     rw [if_neg q1])
                first
                  | done
                  | (have q2 : isDg x = true := decide_eq_true (by rw [i_lt] at h31 h37; omega)
                     rw [if_pos q2]; rfl)
                  | (have q2 : ¬ isDg x = true := fun z => by have := of_decide_eq_true z; rw [i_lt] at h31; omega
                     rw [if_neg q2])
                  | (have q2 : ¬ isDg x = true := fun z => by have := of_decide_eq_true z; rw [i_lt] at h37; omega
                     rw [if_neg q2])
                first
                  | done
                  | (rw [if_pos h45]; rfl)
                  | (rw [if_neg h45]; rfl)
                  | rfl
              · skip
                refine Wp.n (pc' := 53) 2 rfl ?_
                refine Wp.retI (len := 1) rfl rfl ?_
                refine ⟨?_, rfl⟩
                unfold kdc
                first
                  | (have q : isBl x = true := decide_eq_true (by first | exact Or.inl h3 | exact Or.inr h9)
                     rw [if_pos q]; rfl)
                  | skip
                first
                  | done
                  | (have q : ¬ isBl x = true := fun z => by rcases of_decide_eq_true z with z | z; exact h3 z; exact h9 z
                     rw [if_neg q])
                first
                  | done
                  | (have q1 : isLt x = true := decide_eq_true (by rw [i_lt] at h17 h23; omega)
                     rw [if_pos q1]; rfl)
                  | (have q1 : ¬ isLt x = true := fun z => by have := of_decide_eq_true z; rw [i_lt] at h17; omega
                     rw [if_neg q1])
                  | (have q1 : ¬ isLt x = true := fun z => by have := of_decide_eq_true z; rw [i_lt] at h23; omega
                     rw [if_neg q1])
                first
                  | done
                  | (have q2 : isDg x = true := decide_eq_true (by rw [i_lt] at h31 h37; omega)
                     rw [if_pos q2]; rfl)
                  | (have q2 : ¬ isDg x = true := fun z => by have := of_decide_eq_true z; rw [i_lt] at h31; omega
                     rw [if_neg q2])
                  | (have q2 : ¬ isDg x = true := fun z => by have := of_decide_eq_true z; rw [i_lt] at h37; omega
                     rw [if_neg q2])
                first
                  | done
                  | (rw [if_pos h45]; rfl)
                  | (rw [if_neg h45]; rfl)
                  | rfl
            · skip
              refine Wp.n (pc' := 41) 1 rfl ?_
              refine Wp.retI (len := 1) rfl rfl ?_
              refine ⟨?_, rfl⟩
              unfold kdc
              first
                | (have q : isBl x = true := decide_eq_true (by first | exact Or.inl h3 | exact Or.inr h9)
                   rw [if_pos q]; rfl)
                | skip
              first
                | done
                | (have q : ¬ isBl x = true := fun z => by rcases of_decide_eq_true z with z | z; exact h3 z; exact h9 z
                   rw [if_neg q])
              first
                | done
                | (have q1 : isLt x = true := decide_eq_true (by rw [i_lt] at h17 h23; omega)
                   rw [if_pos q1]; rfl)
                | (have q1 : ¬ isLt x = true := fun z => by have := of_decide_eq_true z; rw [i_lt] at h17; omega
                   rw [if_neg q1])
                | (have q1 : ¬ isLt x = true := fun z => by have := of_decide_eq_true z; rw [i_lt] at h23; omega
                   rw [if_neg q1])
              first
                | done
                | (have q2 : isDg x = true := decide_eq_true (by rw [i_lt] at h31 h37; omega)
                   rw [if_pos q2]; rfl)
                | (have q2 : ¬ isDg x = true := fun z => by have := of_decide_eq_true z; rw [i_lt] at h31; omega
                   rw [if_neg q2])
                | (have q2 : ¬ isDg x = true := fun z => by have := of_decide_eq_true z; rw [i_lt] at h37; omega
                   rw [if_neg q2])
              first
                | done
                | (rw [if_pos h45]; rfl)
                | (rw [if_neg h45]; rfl)
                | rfl
        · skip
          refine Wp.n (pc' := 27) 1 rfl ?_
          refine Wp.retI (len := 1) rfl rfl ?_
          refine ⟨?_, rfl⟩
          unfold kdc
          first
            | (have q : isBl x = true := decide_eq_true (by first | exact Or.inl h3 | exact Or.inr h9)
               rw [if_pos q]; rfl)
            | skip
          first
            | done
            | (have q : ¬ isBl x = true := fun z => by rcases of_decide_eq_true z with z | z; exact h3 z; exact h9 z
               rw [if_neg q])
          first
            | done
            | (have q1 : isLt x = true := decide_eq_true (by rw [i_lt] at h17 h23; omega)
               rw [if_pos q1]; rfl)
            | (have q1 : ¬ isLt x = true := fun z => by have := of_decide_eq_true z; rw [i_lt] at h17; omega
               rw [if_neg q1])
            | (have q1 : ¬ isLt x = true := fun z => by have := of_decide_eq_true z; rw [i_lt] at h23; omega
               rw [if_neg q1])
          first
            | done
            | (have q2 : isDg x = true := decide_eq_true (by rw [i_lt] at h31 h37; omega)
               rw [if_pos q2]; rfl)
            | (have q2 : ¬ isDg x = true := fun z => by have := of_decide_eq_true z; rw [i_lt] at h31; omega
               rw [if_neg q2])
            | (have q2 : ¬ isDg x = true := fun z => by have := of_decide_eq_true z; rw [i_lt] at h37; omega
               rw [if_neg q2])
          first
            | done
            | (rw [if_pos h45]; rfl)
            | (rw [if_neg h45]; rfl)
            | rfl
    · skip
      refine Wp.n (pc' := 13) 1 rfl ?_
      refine Wp.retI (len := 1) rfl rfl ?_
      refine ⟨?_, rfl⟩
      unfold kdc
      first
        | (have q : isBl x = true := decide_eq_true (by first | exact Or.inl h3 | exact Or.inr h9)
           rw [if_pos q]; rfl)
        | skip
      first
        | done
        | (have q : ¬ isBl x = true := fun z => by rcases of_decide_eq_true z with z | z; exact h3 z; exact h9 z
           rw [if_neg q])
      first
        | done
        | (have q1 : isLt x = true := decide_eq_true (by rw [i_lt] at h17 h23; omega)
           rw [if_pos q1]; rfl)
        | (have q1 : ¬ isLt x = true := fun z => by have := of_decide_eq_true z; rw [i_lt] at h17; omega
           rw [if_neg q1])
        | (have q1 : ¬ isLt x = true := fun z => by have := of_decide_eq_true z; rw [i_lt] at h23; omega
           rw [if_neg q1])
      first
        | done
        | (have q2 : isDg x = true := decide_eq_true (by rw [i_lt] at h31 h37; omega)
           rw [if_pos q2]; rfl)
        | (have q2 : ¬ isDg x = true := fun z => by have := of_decide_eq_true z; rw [i_lt] at h31; omega
           rw [if_neg q2])
        | (have q2 : ¬ isDg x = true := fun z => by have := of_decide_eq_true z; rw [i_lt] at h37; omega
           rw [if_neg q2])
      first
        | done
        | (rw [if_pos h45]; rfl)
        | (rw [if_neg h45]; rfl)
        | rfl
theorem kdc_b {x : Int32} : kdc x = 4 ↔ isBl x = true := by
  unfold kdc
  constructor
  · intro h
    by_cases c : isBl x = true
    · exact c
    · rw [if_neg c] at h
      split at h
      · cases h
      · split at h
        · cases h
        · split at h <;> cases h
  · intro h
    rw [if_pos h]
theorem kdc_le {x : Int32} : kdc x ≤ 5 := by
  unfold kdc
  repeat' split
  all_goals omega
theorem kdc_tk {s : Nat} (h : s < T.1) (hb : ¬ isBl (T.2 s) = true) : kdc (T.2 s) = ck (tk T s) := by
  unfold kdc tk
  rw [if_neg hb, if_neg (show ¬ T.1 ≤ s by omega)]
  by_cases c1 : isLt (T.2 s) = true
  · rw [if_pos c1, if_pos c1]; rfl
  · rw [if_neg c1, if_neg c1]
    by_cases c2 : isDg (T.2 s) = true
    · rw [if_pos c2, if_pos c2]; rfl
    · rw [if_neg c2, if_neg c2]
      by_cases c3 : T.2 s = 59
      · rw [if_pos c3, if_pos c3]; rfl
      · rw [if_neg c3, if_neg c3]; rfl
theorem k_adv_1 : ∀ (n q : Nat) {κ : CS}, TC κ T → κ.2.2.2 0 = some 33 → q + n = T.1 → κ.1 2 5 = nI q → (∀ κ', FA κ κ' → κ'.1 2 2 = κ.1 2 2 → κ'.1 2 3 = κ.1 2 3 → κ'.1 2 5 = nI (bl T q) → Wp (d + 1) md_11 62 [some (.ref 35), none] [] (cset M κ') Q) → Wp (d + 1) md_11 16 [some (.ref 35), none] [] (cset M κ) Q
  | 0, q, κ, hT, hS, hn, h5, kk => by
    have t20 := hT.2.1
    have e : bl T q = q := tn_no (fun z => by omega)
    refine Wp.n (pc' := 17) 1 rfl ?_
    refine Wp.get (len := 3) rfl (rfl) rfl ?_
    refine Wp.top h5 ?_
    refine Wp.n (pc' := 21) 1 rfl ?_
    refine Wp.get (len := 3) rfl (rfl) rfl ?_
    refine Wp.topR hS ?_
    refine Wp.get (len := 3) rfl (rfl) rfl ?_
    refine Wp.top hT.1 ?_
    refine Wp.nc3 (x := q) (y := T.1) (tgt := 62) (len := 3) rfl (by omega) (by omega) (fun h27 => ?_) (fun h27 => ?_)
    · skip
      exact kk κ FA.r rfl rfl (by rw [e]; exact h5)
    · omega
  | n + 1, q, κ, hT, hS, hn, h5, kk => by
    have t20 := hT.2.1
    have hk := kdc_le (x := T.2 q)
    refine Wp.n (pc' := 17) 1 rfl ?_
    refine Wp.get (len := 3) rfl (rfl) rfl ?_
    refine Wp.top h5 ?_
    refine Wp.n (pc' := 21) 1 rfl ?_
    refine Wp.get (len := 3) rfl (rfl) rfl ?_
    refine Wp.topR hS ?_
    refine Wp.get (len := 3) rfl (rfl) rfl ?_
    refine Wp.top hT.1 ?_
    refine Wp.nc3 (x := q) (y := T.1) (tgt := 62) (len := 3) rfl (by omega) (by omega) (fun h27 => ?_) (fun h27 => ?_)
    · omega
    · skip
      refine Wp.n (pc' := 31) 1 rfl ?_
      refine Wp.get (len := 3) rfl (rfl) rfl ?_
      refine Wp.topR hS ?_
      refine Wp.get (len := 3) rfl (rfl) rfl ?_
      refine Wp.n (pc' := 38) 1 rfl ?_
      refine Wp.get (len := 3) rfl (rfl) rfl ?_
      refine Wp.top h5 ?_
      refine Wp.baldN (j := q) (len := 1) rfl (rfl) rfl (by omega) (by decide) ?_
      refine Wp.top (hT.2.2 q (by omega)) ?_
      refine Wp.ecallS (len := 3) rfl rfl rfl rfl (k_kindOf _) ?_
      refine Wp.n (pc' := 46) 1 rfl ?_
      refine Wp.nc1 (x := kdc (T.2 q)) (y := 4) (tgt := 62) (len := 3) rfl (by omega) (by omega) (fun h46 => ?_) (fun h46 => ?_)
      · skip
        exact kk κ FA.r rfl rfl (by rw [show bl T q = q from tn_no (fun z => h46 (kdc_b.mpr z.2))]; exact h5)
      · skip
        refine Wp.n (pc' := 51) 2 rfl ?_
        refine Wp.get (len := 3) rfl (rfl) rfl ?_
        refine Wp.top h5 ?_
        refine Wp.n (pc' := 55) 1 rfl ?_
        refine Wp.iaddN (x := q) (y := 1) (len := 1) rfl ?_
        refine Wp.cput2 (len := 3) 5 rfl rfl ?_
        refine Wp.n (pc' := 16) 1 rfl ?_
        refine k_adv_1 n (q + 1) (κ := cf κ 2 5 (nI (q + 1))) (FA.f.tc hT) hS (by omega) rfl (fun κ' f a b h => kk κ' (FA.f.t f) a b ?_)
        rw [show bl T q = bl T (q + 1) from tn_go (by omega) (kdc_b.mp (by omega))]
        exact h
theorem rn_end {p : Nat → Bool} : ∀ (m i : Nat), rn p m i < i + m → p (rn p m i) = false
  | 0, i, h => by have : i < i + 0 := h; omega
  | m + 1, i, h => by
    unfold rn at h ⊢
    by_cases c : p i = true
    · rw [if_pos c] at h ⊢
      exact rn_end m (i + 1) (by omega)
    · rw [if_neg c]
      simpa using c
theorem bl_end {q : Nat} (hq : q ≤ T.1) (h : bl T q < T.1) : ¬ isBl (T.2 (bl T q)) = true := by
  have w := rn_end (p := fun i => isBl (T.2 i)) (T.1 - q) q (by unfold bl tn at h; omega)
  intro z
  have w' : isBl (T.2 (bl T q)) = false := w
  rw [w'] at z
  cases z
theorem rn_cg {p p' : Nat → Bool} (e : ∀ i, p i = p' i) : ∀ (m i : Nat), rn p m i = rn p' m i
  | 0, i => rfl
  | m + 1, i => by
    unfold rn
    rw [e i, rn_cg e m (i + 1)]
def kdp (T : TP) (k i : Nat) : Bool := decide (kdc (T.2 i) = k)
theorem kdc_1 {x : Int32} : decide (kdc x = 1) = isLt x := by
  by_cases c : isLt x = true
  · rw [c]
    refine decide_eq_true ?_
    unfold kdc
    have hb : ¬ isBl x = true := fun z => by
      have h1 := of_decide_eq_true c
      rcases of_decide_eq_true z with z | z
      · rw [z] at h1; revert h1; decide
      · rw [z] at h1; revert h1; decide
    rw [if_neg hb, if_pos c]
  · rw [show isLt x = false by simpa using c]
    refine decide_eq_false ?_
    unfold kdc
    rw [if_neg c]
    split
    · decide
    · split
      · decide
      · split <;> decide
theorem kdc_2 {x : Int32} : decide (kdc x = 2) = isDg x := by
  by_cases c : isDg x = true
  · rw [c]
    refine decide_eq_true ?_
    have h1 := of_decide_eq_true c
    unfold kdc
    have hb : ¬ isBl x = true := fun z => by
      rcases of_decide_eq_true z with z | z
      · rw [z] at h1; revert h1; decide
      · rw [z] at h1; revert h1; decide
    have hl : ¬ isLt x = true := fun z => by
      have h2 := of_decide_eq_true z
      omega
    rw [if_neg hb, if_neg hl, if_pos c]
  · rw [show isDg x = false by simpa using c]
    refine decide_eq_false ?_
    unfold kdc
    rw [if_neg c]
    split
    · decide
    · split
      · decide
      · split <;> decide
def vlk (T : TP) (k s m : Nat) : Nat := if k = 2 then min 1000000 (vdN T s m) else 0
theorem k_adv_2 {L s k : Nat} (hL : L ≤ T.1) (hk5 : k ≤ 5) (kk : ∀ κ', FA κ κ' → κ'.1 2 2 = κ.1 2 2 → κ'.1 2 3 = κ.1 2 3 → κ'.1 2 4 = nI k → κ'.1 2 5 = κ.1 2 5 → κ'.1 2 6 = nI (rn (kdp T k) (L - s) s) → κ'.1 2 7 = nI (vlk T k s (rn (kdp T k) (L - s) s - s)) → Wp (d + 9) md_11 242 [some (.ref 35), some (.int (nI L))] [] (cset M κ') Q) : ∀ (n m : Nat) {κ1 : CS}, TC κ1 T → κ1.2.2.2 0 = some 33 → s + m + n = L → FA κ κ1 → κ1.1 2 2 = κ.1 2 2 → κ1.1 2 3 = κ.1 2 3 → κ1.1 2 4 = nI k → κ1.1 2 5 = κ.1 2 5 → κ1.1 2 6 = nI (s + m) → κ1.1 2 7 = nI (vlk T k s m) → rn (kdp T k) (L - s) s = rn (kdp T k) n (s + m) → Wp (d + 9) md_11 155 [some (.ref 35), some (.int (nI L))] [] (cset M κ1) Q
  | 0, m, κ1, hT, hS, hn, f, e2, e3, e4, e5, e6, e7, er => by
    have t20 := hT.2.1
    have er' : rn (kdp T k) (L - s) s = s + m := er
    refine Wp.n (pc' := 156) 1 rfl ?_
    refine Wp.get (len := 3) rfl (rfl) rfl ?_
    refine Wp.top e6 ?_
    refine Wp.n (pc' := 160) 1 rfl ?_
    refine Wp.nc3 (x := s + m) (y := L) (tgt := 242) (len := 3) rfl (by omega) (by omega) (fun h160 => ?_) (fun h160 => ?_)
    · skip
      exact kk κ1 f e2 e3 e4 e5 (by rw [er']; exact e6) (by rw [er', show s + m - s = m by omega]; exact e7)
    · omega
  | n + 1, m, κ1, hT, hS, hn, f, e2, e3, e4, e5, e6, e7, er => by
    have t20 := hT.2.1
    have hk := kdc_le (x := T.2 (s + m))
    have hv : vlk T k s m ≤ 1000000 := by unfold vlk; split <;> omega
    have es : rn (kdp T k) (n + 1) (s + m) = if kdp T k (s + m) = true then rn (kdp T k) n (s + m + 1) else s + m := rfl
    refine Wp.n (pc' := 156) 1 rfl ?_
    refine Wp.get (len := 3) rfl (rfl) rfl ?_
    refine Wp.top e6 ?_
    refine Wp.n (pc' := 160) 1 rfl ?_
    refine Wp.nc3 (x := s + m) (y := L) (tgt := 242) (len := 3) rfl (by omega) (by omega) (fun h160 => ?_) (fun h160 => ?_)
    · omega
    · skip
      refine Wp.n (pc' := 164) 1 rfl ?_
      refine Wp.get (len := 3) rfl (rfl) rfl ?_
      refine Wp.topR hS ?_
      refine Wp.get (len := 3) rfl (rfl) rfl ?_
      refine Wp.n (pc' := 171) 1 rfl ?_
      refine Wp.get (len := 3) rfl (rfl) rfl ?_
      refine Wp.top e6 ?_
      refine Wp.baldN (j := s + m) (len := 1) rfl (rfl) rfl (by omega) (by decide) ?_
      refine Wp.top (hT.2.2 (s + m) (by omega)) ?_
      refine Wp.ecallS (len := 3) rfl rfl rfl rfl (k_kindOf _) ?_
      refine Wp.n (pc' := 179) 1 rfl ?_
      refine Wp.get (len := 3) rfl (rfl) rfl ?_
      refine Wp.top e4 ?_
      refine Wp.nc1 (x := kdc (T.2 (s + m))) (y := k) (tgt := 242) (len := 3) rfl (by omega) (by omega) (fun h182 => ?_) (fun h182 => ?_)
      · skip
        have kp : ¬ kdp T k (s + m) = true := fun z => h182 (of_decide_eq_true z)
        rw [es, if_neg kp] at er
        exact kk κ1 f e2 e3 e4 e5 (by rw [er]; exact e6) (by rw [er, show s + m - s = m by omega]; exact e7)
      · skip
        have kp : kdp T k (s + m) = true := decide_eq_true h182
        rw [es, if_pos kp] at er
        refine Wp.n (pc' := 187) 2 rfl ?_
        refine Wp.get (len := 3) rfl (rfl) rfl ?_
        refine Wp.top e4 ?_
        refine Wp.n (pc' := 191) 1 rfl ?_
        refine Wp.nc1 (x := k) (y := 2) (tgt := 225) (len := 3) rfl (by omega) (by omega) (fun h191 => ?_) (fun h191 => ?_)
        · skip
          refine Wp.n (pc' := 226) 1 rfl ?_
          refine Wp.cput2 (len := 3) 7 rfl rfl ?_
          refine Wp.n (pc' := 231) 2 rfl ?_
          refine Wp.get (len := 3) rfl (rfl) rfl ?_
          refine Wp.top e6 ?_
          refine Wp.n (pc' := 235) 1 rfl ?_
          refine Wp.iaddN (x := s + m) (y := 1) (len := 1) rfl ?_
          refine Wp.cput2 (len := 3) 6 rfl rfl ?_
          refine Wp.n (pc' := 155) 1 rfl ?_
          first
            | (have q : k = 2 := h191
               have ev : vlk T k s (m + 1) = min 1000000 (vlk T k s m * 10 + c - 48) := by
                 unfold vlk
                 rw [if_pos q, if_pos q]
                 show min 1000000 (10 * vdN T s m + ((T.2 (s + m)).toNatClampNeg - 48)) = _
                 rw [hc, nI_clamp (by omega)]
                 omega
               exact k_adv_2 hL hk5 kk n (m + 1) (κ1 := cf (cf κ1 2 7 _) 2 6 _) ((FA.f.t FA.f).tc hT) hS (by omega) (f.t (FA.f.t FA.f)) e2 e3 e4 e5 rfl (by rw [ev]; rfl) er)
            | (have q : ¬ k = 2 := h191
               exact k_adv_2 hL hk5 kk n (m + 1) (κ1 := cf (cf κ1 2 7 _) 2 6 _) ((FA.f.t FA.f).tc hT) hS (by omega) (f.t (FA.f.t FA.f)) e2 e3 e4 e5 rfl (by unfold vlk; rw [if_neg q]; rfl) er)
        · skip
          have hg : isDg (T.2 (s + m)) = true := by rw [← kdc_2]; exact decide_eq_true (by omega)
          obtain ⟨c, hc, c1, c2⟩ := dg_of hg
          refine Wp.n (pc' := 197) 2 rfl ?_
          refine Wp.get (len := 3) rfl (rfl) rfl ?_
          refine Wp.top e7 ?_
          refine Wp.n (pc' := 202) 1 rfl ?_
          refine Wp.imulN (x := vlk T k s m) (y := 10) (len := 1) rfl ?_
          refine Wp.n (pc' := 204) 1 rfl ?_
          refine Wp.get (len := 3) rfl (rfl) rfl ?_
          refine Wp.topR hS ?_
          refine Wp.get (len := 3) rfl (rfl) rfl ?_
          refine Wp.n (pc' := 211) 1 rfl ?_
          refine Wp.get (len := 3) rfl (rfl) rfl ?_
          refine Wp.top e6 ?_
          refine Wp.baldN (j := s + m) (len := 1) rfl (rfl) rfl (by omega) (by decide) ?_
          refine Wp.top ((hT.2.2 (s + m) (by omega)).trans hc) ?_
          refine Wp.iaddN (x := (vlk T k s m) * 10) (y := c) (len := 1) rfl ?_
          refine Wp.n (pc' := 218) 1 rfl ?_
          refine Wp.isubN (x := ((vlk T k s m) * 10) + c) (y := 48) (len := 1) rfl (by omega) ?_
          refine Wp.bi (len := 3) rfl (by decide) rfl (by omega) ?_
          refine Wp.top (n_min (x := 1000000) (y := vlk T k s m * 10 + c - 48) (by decide) (by omega)) ?_
          refine Wp.n (pc' := 226) 1 rfl ?_
          refine Wp.cput2 (len := 3) 7 rfl rfl ?_
          refine Wp.n (pc' := 231) 2 rfl ?_
          refine Wp.get (len := 3) rfl (rfl) rfl ?_
          refine Wp.top e6 ?_
          refine Wp.n (pc' := 235) 1 rfl ?_
          refine Wp.iaddN (x := s + m) (y := 1) (len := 1) rfl ?_
          refine Wp.cput2 (len := 3) 6 rfl rfl ?_
          refine Wp.n (pc' := 155) 1 rfl ?_
          first
            | (have q : k = 2 := h191
               have ev : vlk T k s (m + 1) = min 1000000 (vlk T k s m * 10 + c - 48) := by
                 unfold vlk
                 rw [if_pos q, if_pos q]
                 show min 1000000 (10 * vdN T s m + ((T.2 (s + m)).toNatClampNeg - 48)) = _
                 rw [hc, nI_clamp (by omega)]
                 omega
               exact k_adv_2 hL hk5 kk n (m + 1) (κ1 := cf (cf κ1 2 7 _) 2 6 _) ((FA.f.t FA.f).tc hT) hS (by omega) (f.t (FA.f.t FA.f)) e2 e3 e4 e5 rfl (by rw [ev]; rfl) er)
            | (have q : ¬ k = 2 := h191
               exact k_adv_2 hL hk5 kk n (m + 1) (κ1 := cf (cf κ1 2 7 _) 2 6 _) ((FA.f.t FA.f).tc hT) hS (by omega) (f.t (FA.f.t FA.f)) e2 e3 e4 e5 rfl (by unfold vlk; rw [if_neg q]; rfl) er)
end CLX
