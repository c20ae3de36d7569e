/-- a stronger start, a weaker end -/
theorem Met_cons {l : Launch} {y : MethodName} {ws : List Cond} {rm : Room} {Pc Pc' : Array Value → State → Prop} {Qc Qc' : Array Value → State → Outcome → State → Prop} {mc ms : Nat} {free : Addr → Prop} (h : Met l y ws rm Pc Qc mc ms free)
    (hP : ∀ a U, Pc' a U → Pc a U) (hQ : ∀ a st o t, Pc' a st → Qc a st o t → Qc' a st o t) : Met l y ws rm Pc' Qc' mc ms free := by
  intro p e h1 h2 h3 s m args below hf hS hp hk
  obtain ⟨n, o, w1, w2, w3, w4, w5⟩ := h p e h1 h2 h3 s m args below hf hS (hP _ _ hp) hk
  exact ⟨n, o, w1, w2, w3, hQ _ _ _ _ hp w4, w5⟩
def hasB (kf : Nat → Int64) (key : Int64) : Nat → Bool
  | 0 => false
  | n + 1 => kf n == key || hasB kf key n
theorem hasB_yes {kf : Nat → Int64} {key : Int64} : ∀ {n : Nat}, hasB kf key n = true → ∃ j, j < n ∧ kf j = key
  | 0, h => by simp [hasB] at h
  | n + 1, h => by
    rw [hasB, Bool.or_eq_true] at h
    rcases h with h | h
    · exact ⟨n, by omega, by simpa using h⟩
    · obtain ⟨j, hj, e⟩ := hasB_yes h
      exact ⟨j, by omega, e⟩
theorem hasB_no {kf : Nat → Int64} {key : Int64} : ∀ {n : Nat}, hasB kf key n = false → ∀ j, j < n → kf j ≠ key
  | 0, _, j, hj => absurd hj (Nat.not_lt_zero j)
  | n + 1, h, j, hj => by
    rw [hasB, Bool.or_eq_false_iff] at h
    rcases Nat.lt_or_ge j n with q | q
    · exact hasB_no h.2 j q
    · have : j = n := by omega
      subst this
      exact fun e => by simp [e] at h
def roomK (n : Nat) : Nat := if 256 < 2 * n then 2 * n else 256
/-- a key comes to the set: keys, room, both arrays' lengths, cells, slots -/
def addS (b : Bool) (n e KL SL : Nat) : Nat × Nat × Nat × Nat × Nat × Nat :=
  match b with
  | true => (n, e, KL, SL, 0, 0)
  | false =>
    if n < KL then
      if 2 * (n + 1) ≤ 2 ^ e then (n + 1, e, KL, SL, 0, 0)
      else if SL < 2 ^ (e + 1) then (n + 1, e + 1, KL, 2 ^ (e + 1), 1, 2 ^ (e + 1)) else (n + 1, e + 1, KL, SL, 0, 0)
    else
      if 2 * (n + 1) ≤ 2 ^ e then (n + 1, e, roomK n, SL, 1, roomK n)
      else if SL < 2 ^ (e + 1) then (n + 1, e + 1, roomK n, 2 ^ (e + 1), 2, roomK n + 2 ^ (e + 1)) else (n + 1, e + 1, roomK n, SL, 1, roomK n)
