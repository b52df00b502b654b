/-! ===== the kinds that an instruction takes and leaves; a method that may run (the table is written by wip/gen/typ.py) ===== -/
def zsh (op : Nat) : Nat × List Nat × List Nat := match op with
  | 0 => (1, [], [])
  | 1 => (1, [], [3])
  | 2 => (1, [], [1])
  | 3 => (1, [], [1])
  | 4 => (1, [], [1])
  | 5 => (1, [], [1])
  | 6 => (1, [], [1])
  | 7 => (1, [], [1])
  | 8 => (1, [], [1])
  | 9 => (1, [], [2])
  | 10 => (1, [], [2])
  | 16 => (2, [], [1])
  | 17 => (3, [], [1])
  | 21 => (2, [], [1])
  | 22 => (2, [], [2])
  | 25 => (2, [], [3])
  | 46 => (1, [1, 3], [1])
  | 47 => (1, [1, 3], [2])
  | 50 => (1, [1, 3], [3])
  | 51 => (1, [1, 3], [1])
  | 52 => (1, [1, 3], [1])
  | 53 => (1, [1, 3], [1])
  | 54 => (2, [1], [])
  | 55 => (2, [2], [])
  | 58 => (2, [3], [])
  | 79 => (1, [1, 1, 3], [])
  | 80 => (1, [2, 1, 3], [])
  | 83 => (1, [3, 1, 3], [])
  | 84 => (1, [1, 1, 3], [])
  | 85 => (1, [1, 1, 3], [])
  | 86 => (1, [1, 1, 3], [])
  | 87 => (1, [], [])
  | 88 => (1, [2], [])
  | 89 => (1, [], [])
  | 95 => (1, [], [])
  | 96 => (1, [1, 1], [1])
  | 97 => (1, [2, 2], [2])
  | 100 => (1, [1, 1], [1])
  | 101 => (1, [2, 2], [2])
  | 104 => (1, [1, 1], [1])
  | 105 => (1, [2, 2], [2])
  | 108 => (1, [1, 1], [1])
  | 109 => (1, [2, 2], [2])
  | 112 => (1, [1, 1], [1])
  | 113 => (1, [2, 2], [2])
  | 116 => (1, [1], [1])
  | 117 => (1, [2], [2])
  | 120 => (1, [1, 1], [1])
  | 121 => (1, [1, 2], [2])
  | 122 => (1, [1, 1], [1])
  | 123 => (1, [1, 2], [2])
  | 124 => (1, [1, 1], [1])
  | 125 => (1, [1, 2], [2])
  | 126 => (1, [1, 1], [1])
  | 127 => (1, [2, 2], [2])
  | 128 => (1, [1, 1], [1])
  | 129 => (1, [2, 2], [2])
  | 130 => (1, [1, 1], [1])
  | 131 => (1, [2, 2], [2])
  | 132 => (3, [], [])
  | 133 => (1, [1], [2])
  | 136 => (1, [2], [1])
  | 145 => (1, [1], [1])
  | 146 => (1, [1], [1])
  | 147 => (1, [1], [1])
  | 148 => (1, [2, 2], [1])
  | 153 => (3, [1], [])
  | 154 => (3, [1], [])
  | 155 => (3, [1], [])
  | 156 => (3, [1], [])
  | 157 => (3, [1], [])
  | 158 => (3, [1], [])
  | 159 => (3, [1, 1], [])
  | 160 => (3, [1, 1], [])
  | 161 => (3, [1, 1], [])
  | 162 => (3, [1, 1], [])
  | 163 => (3, [1, 1], [])
  | 164 => (3, [1, 1], [])
  | 165 => (3, [3, 3], [])
  | 166 => (3, [3, 3], [])
  | 167 => (3, [], [])
  | 172 => (1, [1], [])
  | 173 => (1, [2], [])
  | 176 => (1, [3], [])
  | 177 => (1, [], [])
  | 180 => (3, [3], [])
  | 181 => (3, [], [])
  | 184 => (2, [], [])
  | 187 => (2, [], [3])
  | 188 => (2, [1], [3])
  | 189 => (1, [1], [3])
  | 190 => (1, [3], [1])
  | 191 => (1, [3], [])
  | 192 => (2, [3], [3])
  | 193 => (2, [3], [1])
  | 198 => (3, [3], [])
  | 199 => (3, [3], [])
  | _ => (0, [], [])
/-- a method: length, code, handlers, arguments, kinds of arguments, locals, stack, result -/
abbrev zMu : Type := Nat × (Nat → Nat) × Nat × (Nat → Nat) × Nat × (Nat → Nat) × Nat × Nat × Nat
def uLen (μ : zMu) : Nat := μ.1
def uC (μ : zMu) : Nat → Nat := μ.2.1
def uH (μ : zMu) : Nat := μ.2.2.1
def uHs (μ : zMu) : Nat → Nat := μ.2.2.2.1
def uNa (μ : zMu) : Nat := μ.2.2.2.2.1
def uKd (μ : zMu) : Nat → Nat := μ.2.2.2.2.2.1
def uLo (μ : zMu) : Nat := μ.2.2.2.2.2.2.1
def uSk (μ : zMu) : Nat := μ.2.2.2.2.2.2.2.1
def uRs (μ : zMu) : Nat := μ.2.2.2.2.2.2.2.2
def zMuOk (K : Nat) (μ : zMu) : Prop := uLen μ ≤ 200 ∧ (∀ i, i < uLen μ → uC μ i < 256) ∧ uH μ ≤ 8 ∧ (∀ i, i < 4 * uH μ → uHs μ i ≤ 200) ∧ (∀ j, j < uH μ → uHs μ (4 * j + 3) < K) ∧ uNa μ ≤ 4 ∧ (∀ i, i < uNa μ → 1 ≤ uKd μ i ∧ uKd μ i ≤ 3) ∧ uNa μ ≤ uLo μ ∧ uLo μ ≤ 16 ∧ uSk μ ≤ 12 ∧ uRs μ ≤ 3
def zpop : List Nat → List Nat → Option (List Nat)
  | [], st => some st
  | k :: ks, s :: st => if s = k then zpop ks st else none
  | _ :: _, [] => none
/-- a field's kind -/
def zkf (ρ : Nat → Nat) (a b : Nat) : Nat := if (ρ a).testBit b then 3 else 1
/-- arguments as they stand, the last on top -/
def zargs (kd : Nat → Nat) : Nat → List Nat
  | 0 => []
  | n + 1 => kd n :: zargs kd n
abbrev zEn : Type := Nat × (Nat → Nat) × (Nat → Nat) × (Nat → zMu)
def zset (l : Nat → Nat) (a k : Nat) : Nat → Nat := fun i => if i = a then k else l i
/-- what is not the same for every use of an instruction -/
def zheed (E : zEn) (m : Nat) (μ : zMu) (op a b : Nat) (st : List Nat) (l : Nat → Nat) : Option (List Nat × (Nat → Nat)) := match op with
  | 21 => if a < uLo μ ∧ l a = 1 then some (st, l) else none
  | 22 => if a < uLo μ ∧ l a = 2 then some (st, l) else none
  | 25 => if a < uLo μ ∧ l a = 3 then some (st, l) else none
  | 54 => if a < uLo μ then some (st, zset l a 1) else none
  | 55 => if a < uLo μ then some (st, zset l a 2) else none
  | 58 => if a < uLo μ then some (st, zset l a 3) else none
  | 132 => if a < uLo μ ∧ l a = 1 then some (st, l) else none
  | 87 => match st with
    | k :: st => if k = 1 ∨ k = 3 then some (st, l) else none
    | [] => none
  | 89 => match st with
    | k :: st => if k = 1 ∨ k = 3 then some (k :: k :: st, l) else none
    | [] => none
  | 95 => match st with
    | k :: j :: st => if (k = 1 ∨ k = 3) ∧ (j = 1 ∨ j = 3) then some (j :: k :: st, l) else none
    | _ => none
  | 172 => if uRs μ = 1 then some (st, l) else none
  | 173 => if uRs μ = 2 then some (st, l) else none
  | 176 => if uRs μ = 3 then some (st, l) else none
  | 177 => if uRs μ = 0 then some (st, l) else none
  | 180 => if a < E.1 ∧ b < E.2.1 a then some (zkf E.2.2.1 a b :: st, l) else none
  | 181 => if a < E.1 ∧ b < E.2.1 a then (zpop [zkf E.2.2.1 a b, 3] st).map fun st => (st, l) else none
  | 184 => if a ≤ m then (zpop (zargs (uKd (E.2.2.2 a)) (uNa (E.2.2.2 a))) st).map fun st => (if uRs (E.2.2.2 a) = 0 then st else uRs (E.2.2.2 a) :: st, l) else none
  | 187 => if a < E.1 then some (st, l) else none
  | 192 => if a < E.1 then some (st, l) else none
  | 193 => if a < E.1 then some (st, l) else none
  | 188 => if 4 ≤ a ∧ a ≤ 11 ∧ a ≠ 6 ∧ a ≠ 7 then some (st, l) else none
  | _ => some (st, l)
def ztr (E : zEn) (m : Nat) (μ : zMu) (op a b : Nat) (st : List Nat) (l : Nat → Nat) : Option (List Nat × (Nat → Nat)) :=
  (zpop (zsh op).2.1 st).bind fun st1 => (zheed E m μ op a b st1 l).bind fun q => if ((zsh op).2.2 ++ q.1).length ≤ uSk μ then some ((zsh op).2.2 ++ q.1, q.2) else none
def zjumps (op : Nat) : Prop := 153 ≤ op ∧ op ≤ 167 ∨ op = 198 ∨ op = 199
def zgoes (op : Nat) : Prop := op < 167 ∨ 177 < op ∧ op ≠ 191
/-- a byte with its sign, a jump's end -/
def zsg (a : Nat) : Int := if a < 128 then (a : Int) else (a : Int) - 256
def zto (p a b : Nat) : Int := (p : Int) + zsg a * 256 + b
abbrev zTau : Type := Nat → Option (List Nat × (Nat → Nat))
def zflow (τ : zTau) (len : Nat) (q : Int) (st : List Nat) (l : Nat → Nat) : Prop := 0 ≤ q ∧ q < (len : Int) ∧ ∃ l', τ q.toNat = some (st, l') ∧ ∀ k, k < 16 → l' k = 0 ∨ l' k = l k
/-- the kinds at every place hold together -/
def zgood (E : zEn) (m : Nat) (μ : zMu) (τ : zTau) : Prop :=
  (∃ l, τ 0 = some ([], l) ∧ ∀ k, k < 16 → l k = 0 ∨ k < uNa μ ∧ l k = uKd μ k) ∧ 0 < uLen μ ∧
  ∀ p st l, τ p = some (st, l) → p < uLen μ ∧ st.length ≤ uSk μ ∧ 0 < (zsh (uC μ p)).1 ∧ p + (zsh (uC μ p)).1 ≤ uLen μ ∧
    (∃ st' l', ztr E m μ (uC μ p) (uC μ (p + 1)) (uC μ (p + 2)) st l = some (st', l') ∧ (zjumps (uC μ p) → zflow τ (uLen μ) (zto p (uC μ (p + 1)) (uC μ (p + 2))) st' l') ∧ (zgoes (uC μ p) → zflow τ (uLen μ) (p + (zsh (uC μ p)).1 : Nat) st' l')) ∧
    ∀ j, j < uH μ → uHs μ (4 * j) ≤ p → p < uHs μ (4 * j + 1) → 0 < uSk μ ∧ zflow τ (uLen μ) (uHs μ (4 * j + 2)) [3] l
