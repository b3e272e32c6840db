abbrev sg_T : Type := Nat → Nat → Nat
def conv : Nat → Nat → Nat
  | 0, _ => 0
  | n + 1, v => if v = 0 then 0 else conv n (v / 32) * 27 + v % 32
def vcode : Nat → Nat → Prop
  | 0, v => v = 0
  | n + 1, v => v = 0 ∨ (1 ≤ v % 32 ∧ v % 32 ≤ 26 ∧ vcode n (v / 32))
def bsn (s : Nat) : Nat := if s = 0 then 0 else if s = 1 then 6 else if s = 2 then 12 else 20
def stN (σ : sg_T) (t : Nat) : Nat → Nat × Nat
  | 0 => (0, 0)
  | n + 1 => if σ 2 n = t ∧ (stN σ t n).2 ≤ σ 4 n then (σ 3 n, σ 4 n) else stN σ t n
def HC (σ : sg_T) (h : Nat → Nat → Int32) (hn : Nat → Int64) : Prop :=
  (∀ s, s < 4 → h 2 s = nI (σ 0 (5 + s))) ∧ (∀ i, i < 4 → h 11 i = nI (σ 0 (9 + i))) ∧
  (∀ i, i < σ 0 6 → h 3 i = nI (σ 14 i) ∧ ∀ s, s < 6 → h 4 (6 * i + s) = nI (σ 15 (6 * i + s))) ∧
  (∀ i, i < σ 0 7 → h 5 i = nI (σ 16 i) ∧ h 6 i = nI (σ 17 i) ∧ h 7 i = nI (σ 18 i) ∧ h 8 i = nI (σ 19 i)) ∧
  (∀ i, i < σ 0 8 → h 9 i = nI (σ 20 i) ∧ h 10 i = nI (σ 21 i)) ∧
  (∀ s i, s < 4 → i < σ 0 (5 + s) → hn (8 * s + i) = lN (σ 22 (8 * s + i)))
def HM (σ : sg_T) (a : Nat → Int32) (nm : Nat → Int64) : Prop :=
  (∀ s, s < 4 → a s = nI (σ 0 (5 + s))) ∧ (∀ i, i < 4 → a (4 + i) = nI (σ 0 (9 + i))) ∧
  (∀ i, i < σ 0 6 → a (10 + 8 * i) = nI (σ 14 i) ∧ ∀ s, s < 6 → a (11 + 8 * i + s) = nI (σ 15 (6 * i + s))) ∧
  (∀ i, i < σ 0 7 → a (60 + 4 * i) = nI (σ 16 i) ∧ a (61 + 4 * i) = nI (σ 17 i) ∧ a (62 + 4 * i) = nI (σ 18 i) ∧ a (63 + 4 * i) = nI (σ 19 i)) ∧
  (∀ i, i < σ 0 8 → a (110 + 2 * i) = nI (σ 20 i) ∧ a (111 + 2 * i) = nI (σ 21 i)) ∧
  (∀ s i, s < 4 → i < σ 0 (5 + s) → nm (bsn s + i) = lN (conv 7 (σ 22 (8 * s + i))))
def HW (σ : sg_T) : Prop :=
  (σ 0 5 ≤ 6 ∧ σ 0 6 ≤ 6 ∧ σ 0 7 ≤ 8 ∧ σ 0 8 ≤ 4) ∧ (1 ≤ σ 0 9 ∧ σ 0 9 ≤ 4 ∧ 1 ≤ σ 0 10 ∧ σ 0 10 ≤ 99 ∧ σ 0 11 ≤ 99 ∧ 100 ≤ σ 0 12 ∧ σ 0 12 ≤ 300) ∧
  (∀ i, i < σ 0 6 → σ 14 i ≤ 99 ∧ ∀ s, s < 6 → σ 15 (6 * i + s) ≤ 20) ∧
  (∀ i, i < σ 0 7 → σ 16 i ≤ 9 ∧ σ 17 i ≤ 999 ∧ σ 18 i ≤ 1 ∧ σ 19 i < 64) ∧
  (∀ i, i < σ 0 8 → 1 ≤ σ 20 i ∧ σ 20 i ≤ 99 ∧ σ 21 i ≤ 9) ∧
  (∀ s i, s < 4 → i < σ 0 (5 + s) → vcode 7 (σ 22 (8 * s + i)) ∧ σ 22 (8 * s + i) ≠ 0) ∧
  (∀ i j, i < j → j < σ 0 7 → σ 22 (16 + i) ≠ σ 22 (16 + j))
def CB (σ : sg_T) (c : Nat → Nat → Int32) (cn : Nat → Int64) : Prop :=
  (c 1 5 = nI (σ 0 0) ∧ c 1 6 = nI (σ 0 1) ∧ c 1 7 = nI (σ 0 2) ∧ c 0 4 = nI (σ 0 3) ∧ c 7 8 = nI (σ 0 4)) ∧
  (∀ t j, t < σ 0 0 → j < 14 → c 2 (14 * t + j) = nI (σ 1 (14 * t + j))) ∧
  (∀ n, n < σ 0 1 → c 3 n = nI (σ 2 n) ∧ c 4 n = nI (σ 3 n) ∧ c 5 n = nI (σ 4 n) ∧ c 6 n = nI (σ 5 n)) ∧
  (∀ d, d < σ 0 4 → c 8 d = nI (σ 6 d) ∧ c 9 d = nI (σ 7 d) ∧ c 10 d = nI (σ 8 d)) ∧
  (∀ l, l < 100 → c 11 l = nI (σ 9 l) - 1) ∧
  (∀ q, q < 40 → c 12 q = nI (σ 10 q) - 1 ∧ (σ 10 q ≠ 0 → c 13 q = nI (σ 11 q)) ∧ c 14 q = nI (σ 12 q) ∧ c 15 q = nI (σ 13 q)) ∧
  HC σ (fun k => c (16 + k)) cn
def MB (σ : sg_T) (a : Nat → Int32) (nm : Nat → Int64) : Prop :=
  (a 131 = nI (σ 0 0) ∧ a 132 = nI (σ 0 1) ∧ a 133 = nI (σ 0 2) ∧ a 130 = nI (σ 0 3) ∧ a 134 = nI (σ 0 4)) ∧
  (∀ t j, t < σ 0 0 → j < 11 → a (160 + 12 * t + j) = nI (σ 1 (14 * t + j))) ∧
  (∀ n, n < σ 0 1 → a (640 + 3 * n) = nI (8 * σ 2 n + σ 3 n) ∧ a (641 + 3 * n) = nI (σ 4 n) ∧ a (642 + 3 * n) = nI (σ 5 n)) ∧
  (∀ d, d < σ 0 4 → a (1400 + 3 * d) = nI (σ 6 d) ∧ a (1401 + 3 * d) = nI (σ 7 d) ∧ a (1402 + 3 * d) = nI (σ 8 d)) ∧
  (∀ l, l < 100 → a (2240 + l) = nI (σ 9 l) - 1) ∧
  (∀ q, q < 40 → a (2340 + q) = (if σ 10 q = 0 then -1 else nI (1000 * (σ 10 q - 1) + σ 11 q)) ∧ a (2440 + 2 * q) = nI (σ 12 q) ∧ a (2441 + 2 * q) = nI (σ 13 q)) ∧
  (∀ k, k < σ 0 2 → a (140 + k) = nI (σ 23 k)) ∧ HM σ a nm
def WF (σ : sg_T) : Prop :=
  (σ 0 0 ≤ 40 ∧ σ 0 1 ≤ 240 ∧ σ 0 2 ≤ 12 ∧ σ 0 3 ≤ 199 ∧ σ 0 4 ≤ 200) ∧
  (∀ t, t < σ 0 0 → (σ 1 (14 * t + 0) < σ 0 7 ∧ σ 1 (14 * t + 1) ≤ 2 ∧ 1 ≤ σ 1 (14 * t + 2) ∧ σ 1 (14 * t + 2) ≤ 200 ∧ σ 1 (14 * t + 3) ≤ 9 ∧ σ 1 (14 * t + 4) ≤ 255 ∧ σ 1 (14 * t + 5) < 40 ∧ σ 1 (14 * t + 6) ≤ σ 0 3 ∧ σ 1 (14 * t + 6) ≤ σ 1 (14 * t + 7) ∧ σ 1 (14 * t + 7) ≤ 199 ∧ σ 1 (14 * t + 8) ≤ 2997 ∧ σ 1 (14 * t + 9) ≤ 99 ∧ σ 1 (14 * t + 10) ≤ 1) ∧
    ((σ 1 (14 * t + 11) = 1 ∧ ∃ k, k < σ 0 2 ∧ σ 23 k = t) ∨ (σ 1 (14 * t + 11) = 0 ∧ ∀ k, k < σ 0 2 → σ 23 k ≠ t)) ∧ σ 1 (14 * t + 12) = (stN σ t (σ 0 1)).1 ∧ σ 1 (14 * t + 13) = (stN σ t (σ 0 1)).2) ∧
  (∀ n, n < σ 0 1 → σ 2 n < σ 0 0 ∧ 1 ≤ σ 3 n ∧ σ 3 n ≤ 5 ∧ σ 1 (14 * σ 2 n + 6) ≤ σ 4 n ∧ σ 4 n ≤ σ 5 n ∧ σ 5 n ≤ σ 0 3) ∧
  (∀ d, d < σ 0 4 → σ 6 d ≤ 30000 ∧ σ 7 d ≤ 30000 ∧ σ 8 d ≤ 30000) ∧ (∀ l, l < 100 → σ 9 l ≤ σ 0 8) ∧
  (∀ q, q < 40 → σ 10 q ≤ 31 ∧ σ 11 q ≤ 999 ∧ σ 12 q ≤ 99 ∧ σ 13 q ≤ 99) ∧
  (∀ k, k < σ 0 2 → σ 23 k < σ 0 0) ∧ (∀ j k, j < k → k < σ 0 2 → σ 23 j ≠ σ 23 k) ∧ HW σ
def TG : Nat → (Nat → Nat → Int32) → (Nat → Int32) → Nat → Nat → Nat → Nat → Prop
  | 0, _, _, _, _, _, _ => False
  | f + 1, r, a, i, j, k, n2 => k < 60 ∧ i < j ∧
    ((j = i + 1 ∧ ∃ w v q : Nat, r 1 i = nI (17 + w) ∧ w < 8 ∧ r 2 i = nI q ∧ (q = 60 ∨ q = 61 ∨ q = 62) ∧ r 3 i = nI v ∧ v ≤ 999 ∧ a (2000 + 4 * k) = 4 ∧ a (2001 + 4 * k) = nI w ∧ a (2002 + 4 * k) = nI v ∧ a (2003 + 4 * k) = nI q) ∨
     (j = i + 1 ∧ ∃ v : Nat, r 1 i = 13 ∧ r 3 i = nI v ∧ v < 8 ∧ a (2000 + 4 * k) = 5 ∧ a (2001 + 4 * k) = nI v) ∨
     (j = i + 1 ∧ ∃ v : Nat, r 1 i = 14 ∧ r 3 i = nI v ∧ v ≤ 5 ∧ a (2000 + 4 * k) = 6 ∧ a (2001 + 4 * k) = nI v) ∨
     (j = i + 1 ∧ r 1 i = 15 ∧ a (2000 + 4 * k) = 7) ∨ (j = i + 1 ∧ r 1 i = 16 ∧ a (2000 + 4 * k) = 8) ∨
     (∃ k1, k1 < k ∧ r 1 (j - 1) = 12 ∧ a (2000 + 4 * k) = 1 ∧ a (2001 + 4 * k) = nI k1 ∧ TG f r a i (j - 1) k1 n2) ∨
     (∃ k1 k2 m, k1 < k ∧ k2 < k ∧ r 1 (j - 1) = 11 ∧ a (2000 + 4 * k) = 2 ∧ a (2001 + 4 * k) = nI k1 ∧ a (2002 + 4 * k) = nI k2 ∧ TG f r a i m k1 n2 ∧ TG f r a m (j - 1) k2 n2) ∨
     (∃ k1 k2 m, k1 < k ∧ k2 < k ∧ r 1 (j - 1) = 10 ∧ a (2000 + 4 * k) = 3 ∧ a (2001 + 4 * k) = nI k1 ∧ a (2002 + 4 * k) = nI k2 ∧ TG f r a i m k1 n2 ∧ TG f r a m (j - 1) k2 n2))
def RU (r : Nat → Nat → Int32) (a : Nat → Int32) (n2 : Nat) : Prop := ∃ so st tp : Nat, r 0 4 = nI so ∧ r 0 3 = nI st ∧ so ≤ 20 ∧ st ≤ 40 ∧ ((so = 0 ∧ a 135 = 0) ∨ (so ≠ 0 ∧ a 135 = 1 ∧ a 136 = nI tp ∧ TG 61 r a 0 st tp n2))
def WR (σ : sg_T) (c : Nat → Nat → Int32) (cn : Nat → Int64) (a : Nat → Int32) (nm : Nat → Int64) : Prop := CB σ c cn ∧ MB σ a nm ∧ WF σ ∧ RU (fun k => c (28 + k)) a (σ 0 7)
def blk (μ : fm_T) (b : Nat) : Nat → Nat → Int32 := fun k j => fI μ (b + k) j
def row0 : Nat → Int32 := fun j => if j = 4 then 2 else if j = 5 then 30 else if j = 6 then 20 else if j = 7 then 150 else if 2240 ≤ j ∧ j < 2440 then -1 else 0
def rowN (ν : fm_T) : Nat → Int32 := fun j => if fI ν 0 21 = 0 then row0 j else fI ν 2 j
def XR (ρ : sg_T) (μ ν : fm_T) : Prop :=
  (fI μ 1 2 = nI (ρ 0 0) ∧ fI ν 0 2 = nI (ρ 0 0) ∧ ρ 0 0 ≤ 940 ∧ ∀ i, i < 940 → fI μ 3 i = nI (ρ 1 i) ∧ fI ν 1 i = nI (ρ 1 i) ∧ ρ 1 i ≤ 255) ∧
  (fI μ 51 8 = nI (ρ 0 1) ∧ fI ν 0 39 = nI (ρ 0 1) ∧ ρ 0 1 ≤ 8 ∧ ∀ i, i < ρ 0 1 → fI μ 56 i = fI ν 20 i) ∧
  (fI μ 57 4 = nI (ρ 0 2) ∧ fI ν 0 45 = nI (ρ 0 2) ∧ ρ 0 2 ≤ 6 ∧ ∀ i, i < ρ 0 2 → fI μ 60 i = fI ν 23 i) ∧
  (fI μ 0 11 = nI (ρ 0 3) ∧ fI ν 0 48 = nI (ρ 0 3) ∧ ρ 0 3 ≤ 40 ∧ ∀ i, i < ρ 0 3 → fI μ 72 i = fI ν 25 i) ∧
  (fI μ 61 5 = nI (ρ 0 4) ∧ fI ν 0 54 = nI (ρ 0 4) ∧ ρ 0 4 ≤ 12 ∧ ∀ i, i < ρ 0 4 → fI μ 65 i = fI ν 29 i) ∧
  (fI μ 66 5 = nI (ρ 0 5) ∧ fI ν 0 59 = nI (ρ 0 5) ∧ ρ 0 5 ≤ 9 ∧ ∀ i, i < ρ 0 5 → fI μ 70 i = fI ν 32 i) ∧
  fI μ 0 12 = fI ν 0 10 ∧ ∀ i, i < 25 → fL μ 2 i = wcode i
def KP (σ : sg_T) (r : Nat) (μ ν : fm_T) (k : Nat) : Prop := (r = 2 ∧ fI ν 8 k = 0) ∨ (r = 92 ∧ fI ν 8 k = 1 ∧ WR σ (blk μ 89) (fL μ 106) (fun j => fI ν 4 (2560 * k + j)) (fun j => fL ν 7 (24 * k + j))) ∨ (r = 124 ∧ fI ν 8 k = 1 ∧ WR σ (blk μ 121) (fL μ 138) (fun j => fI ν 4 (2560 * k + j)) (fun j => fL ν 7 (24 * k + j)))
def BG (ν : fm_T) : Prop := fI ν 0 21 = 1 ∨ (fI ν 0 21 = 0 ∧ ∀ j, fI ν 2 j = 0)
def RS (σ σ0 σ1 ρ : sg_T) (r0 r1 : Nat) (μ ν : fm_T) : Prop := lz_r μ r0 r1 ∧ ν.2.1 = shM ∧ ν.1 = 34 ∧ XR ρ μ ν ∧ BG ν ∧ WR σ (blk μ 8) (fL μ 25) (rowN ν) (fL ν 5) ∧ KP σ0 r0 μ ν 0 ∧ KP σ1 r1 μ ν 1
def RR (μ ν : fm_T) : Prop := ∃ (σ σ0 σ1 ρ : sg_T) (r0 r1 : Nat), RS σ σ0 σ1 ρ r0 r1 μ ν
