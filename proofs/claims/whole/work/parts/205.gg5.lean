def ownT (pg : Nat → Nat → Nat) (a : Nat) : Nat := pg 8 (pg 2 a) % 2 ^ a
def onoT (pg : Nat → Nat → Nat) (a : Nat) : Nat := if pg 4 a < 4 then ownT pg a &&& pg 10 (pg 5 a) else 0
def lftT (pg : Nat → Nat → Nat) (md a : Nat) : Nat := if pg 4 a = 0 then pg 9 1 ||| pg 9 2 else if md = 2 ∧ (pg 4 a = 1 ∨ pg 4 a = 2) then andn (pg 9 1 ||| pg 9 2) (pg 10 (pg 5 a)) else 0
def okpT (pg : Nat → Nat → Nat) (md a : Nat) : Nat := andn (ownT pg a) (lftT pg md a)
theorem and_m1 : ∀ a, a < 128 → nI a &&& (-1) = nI (andn a 0) := by decide +kernel
theorem updN_ss {f : Nat → Nat} {k v w : Nat} : updN (updN f k v) k w = updN f k w := updN_2
/-- a reader is noted -/
def nrR (fm : Nat → Nat) (a : Nat) (f : Nat → Nat) : Nat → Nat := if 1 < fm a then updN f (fm a - 1) (f (fm a - 1) ||| 2 ^ a) else f
def nrB (fm : Nat → Nat) (a : Nat) (f : Nat → Nat) : Nat → Nat := if 1 < fm a then updN f a (2 ^ (fm a - 1 - 1)) else f
def nrF (pg : Nat → Nat → Nat) (fm : Nat → Nat) (a : Nat) (f : Nat → Nat) : Nat → Nat := if 1 < fm a then f else updN f (pg 5 a) (f (pg 5 a) ||| 2 ^ a)
theorem pow_eq : ∀ a, a < 7 → (1 : Int32) <<< (nI a &&& 31) = nI (2 ^ a) := by decide +kernel
/-- one pass over the actions below n: what nothing is before goes -/
def plI (f h : Nat → Nat) : Nat → Nat → Nat
  | 0, L => L
  | i + 1, L => if (f i ||| h i) &&& plI f h i L = 0 then clr (plI f h i L) i else plI f h i L
def itR (f h : Nat → Nat) (Ac : Nat) : Nat → Nat → Nat
  | 0, L => L
  | n + 1, L => plI f h Ac (itR f h Ac n L)
theorem plI_lt {f h : Nat → Nat} {L : Nat} (hL : L < 128) : ∀ n, plI f h n L < 128
  | 0 => hL
  | n + 1 => by
    unfold plI; split
    · exact clr_lt (plI_lt hL n)
    · exact plI_lt hL n
theorem itR_lt {f h : Nat → Nat} {Ac L : Nat} (hL : L < 128) : ∀ n, itR f h Ac n L < 128
  | 0 => hL
  | n + 1 => plI_lt (itR_lt hL n) Ac
theorem plI_0 {f h : Nat → Nat} : ∀ n, plI f h n 0 = 0
  | 0 => rfl
  | n + 1 => by
    unfold plI
    rw [plI_0 n]
    split
    · unfold clr; rw [Nat.zero_testBit]; rfl
    · rfl
theorem itR_0 {f h : Nat → Nat} {Ac L n : Nat} (h0 : itR f h Ac n L = 0) : ∀ m, n ≤ m → itR f h Ac m L = 0
  | 0, hm => by rw [Nat.le_zero.mp hm] at h0; exact h0
  | m + 1, hm => by
    rcases Nat.lt_or_eq_of_le hm with q | q
    · unfold itR; rw [itR_0 h0 m (Nat.le_of_lt_succ q)]; exact plI_0 Ac
    · rw [← q]; exact h0
def tuN (pg : Nat → Nat → Nat) (bf f : Nat → Nat) : Nat → (Nat → Nat)
  | 0 => f
  | i + 1 => updN (tuN pg bf f i) i (if pg 4 i = 0 then andn (bf i) (pg 8 (pg 2 i)) else bf i)
/-- what an action HAPPENS before, as far as it is told at once -/
def hp0 (pg : Nat → Nat → Nat) (M : Nat) (rd bf : Nat → Nat) (i : Nat) : Nat := if pg 4 i = 4 then ((aft pg i &&& M) ||| rd (i + 1)) ||| andn (M &&& pg 9 4) (bf i ||| 2 ^ i) else (aft pg i &&& M) ||| rd (i + 1)
def hpN (pg : Nat → Nat → Nat) (M : Nat) (rd bf f : Nat → Nat) : Nat → (Nat → Nat)
  | 0 => f
  | i + 1 => updN (hpN pg M rd bf f i) i (hp0 pg M rd bf i)
def ciN (m : Nat) (f : Nat → Nat) : Nat → (Nat → Nat)
  | 0 => f
  | a + 1 => if ciN m f a a / 2 ^ m % 2 = 1 then updN (ciN m f a) a (ciN m f a a ||| ciN m f a m) else ciN m f a
def coN (Ac : Nat) (f : Nat → Nat) : Nat → (Nat → Nat)
  | 0 => f
  | m + 1 => ciN m (coN Ac f m) Ac
theorem aft_lt {pg : Nat → Nat → Nat} (h : ∀ i, pg 8 i < 128) (a : Nat) : aft pg a < 128 := Nat.lt_of_le_of_lt (Nat.sub_le _ _) (h _)
theorem ciN_lt {m : Nat} {f : Nat → Nat} (hf : ∀ i, f i < 128) : ∀ a i, ciN m f a i < 128
  | 0, i => hf i
  | a + 1, i => by
    unfold ciN; split
    · unfold updN; split
      · exact Nat.or_lt_two_pow (n := 7) (ciN_lt hf a a) (ciN_lt hf a m)
      · exact ciN_lt hf a i
    · exact ciN_lt hf a i
theorem coN_lt {Ac : Nat} {f : Nat → Nat} (hf : ∀ i, f i < 128) : ∀ m i, coN Ac f m i < 128
  | 0, i => hf i
  | m + 1, i => ciN_lt (fun j => coN_lt hf m j) Ac i
theorem hp0_lt {pg : Nat → Nat → Nat} {M : Nat} {rd bf : Nat → Nat} (h8 : ∀ i, pg 8 i < 128) (hM : M < 128) (hrd : ∀ i, rd i < 128) (i : Nat) : hp0 pg M rd bf i < 128 := by
  have h1 : (aft pg i &&& M) ||| rd (i + 1) < 128 := Nat.or_lt_two_pow (n := 7) (Nat.and_lt_two_pow (n := 7) _ hM) (hrd _)
  unfold hp0; split
  · exact Nat.or_lt_two_pow (n := 7) h1 (andn_lt (Nat.lt_of_le_of_lt Nat.and_le_left hM))
  · exact h1
theorem hpN_lt {pg : Nat → Nat → Nat} {M : Nat} {rd bf f : Nat → Nat} (h8 : ∀ i, pg 8 i < 128) (hM : M < 128) (hrd : ∀ i, rd i < 128) (hf : ∀ i, f i < 128) : ∀ n i, hpN pg M rd bf f n i < 128
  | 0, i => hf i
  | n + 1, i => by
    unfold hpN updN; split
    · exact hp0_lt h8 hM hrd n
    · exact hpN_lt h8 hM hrd hf n i
