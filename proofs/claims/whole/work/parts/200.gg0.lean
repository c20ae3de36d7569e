/-- -1, or a number -/
def mN (k : Nat) : Int32 := if k = 0 then -1 else nI (k - 1)
theorem mN_0 : mN 0 = -1 := rfl
theorem mN_s {k : Nat} (h : k ≠ 0) : mN k = nI (k - 1) := if_neg h
def wrb (dn q : Nat) : Bool := q == 0 || dn / 2 ^ (q - 1) % 2 == 1
def blk (dn : Nat) (wm : Nat → Nat) (t : Nat) : Bool := wm t != 0 && !wrb dn (wm t - 1)
/-- the first one from i on, of n, that keeps p, and one more; 0 if there is none -/
def fF (p : Nat → Bool) : Nat → Nat → Nat
  | 0, _ => 0
  | n + 1, i => if p i = true then i + 1 else fF p n (i + 1)
theorem fF_lt {p : Nat → Bool} : ∀ n i, fF p n i ≠ 0 → fF p n i ≤ i + n ∧ i < fF p n i ∧ p (fF p n i - 1) = true
  | 0, i, h => absurd rfl h
  | n + 1, i, h => by
    unfold fF at h ⊢
    by_cases c : p i = true
    · rw [if_pos c]; exact ⟨by omega, by omega, c⟩
    · rw [if_neg c] at h ⊢
      obtain ⟨h1, h2, h3⟩ := fF_lt n (i + 1) h
      exact ⟨by omega, by omega, h3⟩
def aft (pg : Nat → Nat → Nat) (a : Nat) : Nat := pg 8 (pg 2 a) - pg 8 (pg 2 a) % 2 ^ (a + 1)
def beh (pg : Nat → Nat → Nat) (fm : Nat → Nat) (w q : Nat) : Bool := fm w == q + 1 || aft pg (q - 1) / 2 ^ w % 2 == 1
/-- what an own one ahead showed: its source, or itself; 0: the first one -/
def shw (pg : Nat → Nat → Nat) (fm : Nat → Nat) (b : Nat) : Nat := if pg 4 b = 0 then fm b - 1 else b + 1
def pst (pg : Nat → Nat → Nat) (fm : Nat → Nat) (ah q b : Nat) : Bool := ah / 2 ^ b % 2 == 1 && (shw pg fm b != 0 && (q == 0 || beh pg fm (shw pg fm b - 1) q))
def fre (pg : Nat → Nat → Nat) (pl : Nat → Nat) (dn : Nat) (wm : Nat → Nat) (t : Nat) : Bool := decide (pl t < pg 0 t) && !blk dn wm t
/-- a thread that waits in no ring with wt can go on -/
def cHp (pg : Nat → Nat → Nat) (dn : Nat) (wm : Nat → Nat) (wt : Nat) : Nat → Nat → Bool
  | 0, _ => false
  | n + 1, t => if t = wt then false else if blk dn wm t = false then true else cHp pg dn wm wt n (pg 2 (wm t - 1 - 1))
theorem bit0 {b : Nat} (h : b < 2) (hb : ¬ b = 0) : b = 1 := by omega
