/-! THE HOUSE: what both sides keep, and how each keeps it (written by wip/gen/state.py) -/
/-- a part of a text is a list of codes as the reference numbers them: 100000 + n a number, below 6 a name, 13 and 19 signs before one, others signs between two -/
def q_stp (c : Nat) : Int32 := if 100000 ≤ c then nI (c - 100000) else if c < 6 then -(nI (306 + c)) else if c = 11 then -303 else if c = 12 then -304 else if c = 13 then -305 else if c = 14 then -60 else if c = 15 then -61 else if c = 16 then -43 else if c = 17 then -45 else if c = 18 then -42 else -312
def q_cok (c : Nat) : Prop := (100000 ≤ c ∧ c < 110000) ∨ c < 6 ∨ (11 ≤ c ∧ c < 20)
/-- how many values stand on the stack after some codes -/
def q_dep : Nat → List Nat → Option Nat
  | n, [] => some n
  | n, c :: cs => if 100000 ≤ c ∨ c < 6 then q_dep (n + 1) cs else if c = 13 ∨ c = 19 then (if 1 ≤ n then q_dep n cs else none) else (if 2 ≤ n then q_dep (n - 1) cs else none)
/-- where a part of a text begins -/
def q_to (f : Nat → List Nat) : Nat → Nat
  | 0 => 0
  | p + 1 => q_to f p + (f p).length
def q_A : Type := (Nat → Nat → Nat → Nat) × (Nat → Nat → Nat → Int32) × (Nat → Nat → List Nat)
def q_A.nat (A : q_A) : Nat → Nat → Nat → Nat := @Prod.fst (Nat → Nat → Nat → Nat) ((Nat → Nat → Nat → Int32) × (Nat → Nat → List Nat)) A
def q_A.int (A : q_A) : Nat → Nat → Nat → Int32 := @Prod.fst (Nat → Nat → Nat → Int32) (Nat → Nat → List Nat) (@Prod.snd (Nat → Nat → Nat → Nat) ((Nat → Nat → Nat → Int32) × (Nat → Nat → List Nat)) A)
def q_A.txt (A : q_A) : Nat → Nat → List Nat := @Prod.snd (Nat → Nat → Nat → Int32) (Nat → Nat → List Nat) (@Prod.snd (Nat → Nat → Nat → Nat) ((Nat → Nat → Nat → Int32) × (Nat → Nat → List Nat)) A)
def q_mk (a : Nat → Nat → Nat → Nat) (b : Nat → Nat → Nat → Int32) (c : Nat → Nat → List Nat) : q_A := (a, b, c)
def q_A.setN (A : q_A) (t : Nat) (v : Nat → Nat → Nat) : q_A := q_mk (fun s => if s = t then v else A.nat s) A.int A.txt
def q_A.setI (A : q_A) (t : Nat) (v : Nat → Nat → Int32) : q_A := q_mk A.nat (fun s => if s = t then v else A.int s) A.txt
def q_A.setT (A : q_A) (v : Nat → Nat → List Nat) : q_A := q_mk A.nat A.int v
def q_A.F (A : q_A)  : Nat := A.nat 0 0 0
def q_A.L (A : q_A)  : Nat := A.nat 1 0 0
def q_A.H (A : q_A)  : Nat := A.nat 2 0 0
def q_A.K (A : q_A)  : Nat := A.nat 3 0 0
def q_A.T (A : q_A)  : Nat := A.nat 4 0 0
def q_A.N (A : q_A)  : Nat := A.nat 5 0 0
def q_A.B (A : q_A)  : Nat := A.nat 6 0 0
def q_A.law (A : q_A)  : Nat := A.nat 7 0 0
def q_A.iN (A : q_A)  : Nat := A.nat 8 0 0
def q_A.ilaw (A : q_A)  : Nat := A.nat 9 0 0
def q_A.kind (A : q_A) (i : Nat) : Nat := A.nat 10 i 0
def q_A.pow (A : q_A) (i : Nat) : Nat := A.nat 11 i 0
def q_A.room (A : q_A) (i : Nat) : Nat := A.nat 12 i 0
def q_A.sx (A : q_A) (i : Nat) : Nat := A.nat 13 i 0
def q_A.sy (A : q_A) (i : Nat) : Nat := A.nat 14 i 0
def q_A.more (A : q_A) (i : Nat) : Nat := A.nat 15 i 0
def q_A.fed (A : q_A) (i : Nat) (j : Nat) : Nat := A.nat 16 i j
def q_A.lab (A : q_A) (i : Nat) (j : Nat) : Nat := A.nat 17 i j
def q_A.size (A : q_A) (i : Nat) : Nat := A.nat 18 i 0
def q_A.img (A : q_A)  : Nat := A.nat 19 0 0
def q_A.out (A : q_A)  : Int32 := A.int 0 0 0
def q_A.on (A : q_A)  : Int32 := A.int 1 0 0
def q_A.hour (A : q_A)  : Int32 := A.int 2 0 0
def q_A.slips (A : q_A)  : Int32 := A.int 3 0 0
def q_A.bears (A : q_A) (i : Nat) : Int32 := A.int 4 i 0
def q_A.times (A : q_A) (i : Nat) : Int32 := A.int 5 i 0
def q_A.year (A : q_A) (i : Nat) : Int32 := A.int 6 i 0
def q_A.ao (A : q_A) (i : Nat) : Int32 := A.int 7 i 0
def q_A.an (A : q_A) (i : Nat) : Int32 := A.int 8 i 0
def q_A.ah (A : q_A) (i : Nat) : Int32 := A.int 9 i 0
def q_A.ar (A : q_A) (i : Nat) : Int32 := A.int 10 i 0
def q_A.az (A : q_A) (i : Nat) : Int32 := A.int 11 i 0
def q_A.iout (A : q_A)  : Int32 := A.int 12 0 0
def q_A.ion (A : q_A)  : Int32 := A.int 13 0 0
def q_A.ihour (A : q_A)  : Int32 := A.int 14 0 0
def q_A.islips (A : q_A)  : Int32 := A.int 15 0 0
def q_A.io (A : q_A) (i : Nat) : Int32 := A.int 16 i 0
def q_A.inn (A : q_A) (i : Nat) : Int32 := A.int 17 i 0
def q_A.ih (A : q_A) (i : Nat) : Int32 := A.int 18 i 0
def q_A.ir (A : q_A) (i : Nat) : Int32 := A.int 19 i 0
def q_A.iz (A : q_A) (i : Nat) : Int32 := A.int 20 i 0
def q_A.tape (A : q_A) (i : Nat) : Int32 := A.int 21 i 0
def q_A.sort (A : q_A) (i : Nat) : Int32 := A.int 22 i 0
def q_A.cell (A : q_A) (i : Nat) (j : Nat) : Int32 := A.int 23 i j
def q_Ok (A : q_A) : Prop :=
  (A.F ≤ 6) ∧
  (A.L ≤ 10) ∧
  (A.H ≤ 12) ∧
  (A.K ≤ 4) ∧
  (A.T ≤ 6) ∧
  (0 < A.T) ∧
  (A.N ≤ 10) ∧
  (A.B ≤ 160) ∧
  (A.law < A.T) ∧
  (A.iN ≤ 10) ∧
  (A.ilaw < A.T) ∧
  (A.img ≤ 1) ∧
  (∀ l, l < A.L → A.kind l ≤ 5) ∧
  (∀ l, l < A.L → A.pow l ≤ 99) ∧
  (∀ l, l < A.L → 1 ≤ A.pow l) ∧
  (∀ l, l < A.L → A.room l < 6) ∧
  (∀ l, l < A.L → A.sx l < 8) ∧
  (∀ l, l < A.L → A.sy l < 8) ∧
  (∀ l, l < A.L → A.more l < 10) ∧
  (∀ h l, h < A.H → l < A.L → A.fed h l < A.F) ∧
  (∀ k l, k < A.K → l < A.L → A.lab k l < A.F) ∧
  (∀ s, s < 4 → A.size s ≤ 40) ∧
  (∀ s, s < 4 → (A.sort s = -1 ∧ A.size s = 0) ∨ A.sort s = 0 ∨ A.sort s = 1 ∨ A.sort s = 2) ∧
  (∀ i, i < A.B → 0 ≤ A.tape i ∧ A.tape i ≤ 255) ∧
  (∀ t p, t < A.T → p < 3 → q_dep 0 (A.txt t p) = some 1) ∧
  (∀ t p c, t < A.T → p < 3 → c ∈ A.txt t p → q_cok c) ∧
  (∀ t, t < A.T → q_to (A.txt t) 3 ≤ 160)
theorem q_Ok.F {A : q_A} (h : q_Ok A) : A.F ≤ 6 := h.1
theorem q_Ok.L {A : q_A} (h : q_Ok A) : A.L ≤ 10 := h.2.1
theorem q_Ok.H {A : q_A} (h : q_Ok A) : A.H ≤ 12 := h.2.2.1
theorem q_Ok.K {A : q_A} (h : q_Ok A) : A.K ≤ 4 := h.2.2.2.1
theorem q_Ok.T {A : q_A} (h : q_Ok A) : A.T ≤ 6 := h.2.2.2.2.1
theorem q_Ok.T0 {A : q_A} (h : q_Ok A) : 0 < A.T := h.2.2.2.2.2.1
theorem q_Ok.N {A : q_A} (h : q_Ok A) : A.N ≤ 10 := h.2.2.2.2.2.2.1
theorem q_Ok.B {A : q_A} (h : q_Ok A) : A.B ≤ 160 := h.2.2.2.2.2.2.2.1
theorem q_Ok.law {A : q_A} (h : q_Ok A) : A.law < A.T := h.2.2.2.2.2.2.2.2.1
theorem q_Ok.iN {A : q_A} (h : q_Ok A) : A.iN ≤ 10 := h.2.2.2.2.2.2.2.2.2.1
theorem q_Ok.ilaw {A : q_A} (h : q_Ok A) : A.ilaw < A.T := h.2.2.2.2.2.2.2.2.2.2.1
theorem q_Ok.img {A : q_A} (h : q_Ok A) : A.img ≤ 1 := h.2.2.2.2.2.2.2.2.2.2.2.1
theorem q_Ok.kind {A : q_A} (h : q_Ok A) : ∀ l, l < A.L → A.kind l ≤ 5 := h.2.2.2.2.2.2.2.2.2.2.2.2.1
theorem q_Ok.pow {A : q_A} (h : q_Ok A) : ∀ l, l < A.L → A.pow l ≤ 99 := h.2.2.2.2.2.2.2.2.2.2.2.2.2.1
theorem q_Ok.pow1 {A : q_A} (h : q_Ok A) : ∀ l, l < A.L → 1 ≤ A.pow l := h.2.2.2.2.2.2.2.2.2.2.2.2.2.2.1
theorem q_Ok.room {A : q_A} (h : q_Ok A) : ∀ l, l < A.L → A.room l < 6 := h.2.2.2.2.2.2.2.2.2.2.2.2.2.2.2.1
theorem q_Ok.sx {A : q_A} (h : q_Ok A) : ∀ l, l < A.L → A.sx l < 8 := h.2.2.2.2.2.2.2.2.2.2.2.2.2.2.2.2.1
theorem q_Ok.sy {A : q_A} (h : q_Ok A) : ∀ l, l < A.L → A.sy l < 8 := h.2.2.2.2.2.2.2.2.2.2.2.2.2.2.2.2.2.1
theorem q_Ok.more {A : q_A} (h : q_Ok A) : ∀ l, l < A.L → A.more l < 10 := h.2.2.2.2.2.2.2.2.2.2.2.2.2.2.2.2.2.2.1
theorem q_Ok.fed {A : q_A} (h : q_Ok A) : ∀ h l, h < A.H → l < A.L → A.fed h l < A.F := h.2.2.2.2.2.2.2.2.2.2.2.2.2.2.2.2.2.2.2.1
theorem q_Ok.lab {A : q_A} (h : q_Ok A) : ∀ k l, k < A.K → l < A.L → A.lab k l < A.F := h.2.2.2.2.2.2.2.2.2.2.2.2.2.2.2.2.2.2.2.2.1
theorem q_Ok.size {A : q_A} (h : q_Ok A) : ∀ s, s < 4 → A.size s ≤ 40 := h.2.2.2.2.2.2.2.2.2.2.2.2.2.2.2.2.2.2.2.2.2.1
theorem q_Ok.sort {A : q_A} (h : q_Ok A) : ∀ s, s < 4 → (A.sort s = -1 ∧ A.size s = 0) ∨ A.sort s = 0 ∨ A.sort s = 1 ∨ A.sort s = 2 := h.2.2.2.2.2.2.2.2.2.2.2.2.2.2.2.2.2.2.2.2.2.2.1
theorem q_Ok.tape {A : q_A} (h : q_Ok A) : ∀ i, i < A.B → 0 ≤ A.tape i ∧ A.tape i ≤ 255 := h.2.2.2.2.2.2.2.2.2.2.2.2.2.2.2.2.2.2.2.2.2.2.2.1
theorem q_Ok.txt {A : q_A} (h : q_Ok A) : ∀ t p, t < A.T → p < 3 → q_dep 0 (A.txt t p) = some 1 := h.2.2.2.2.2.2.2.2.2.2.2.2.2.2.2.2.2.2.2.2.2.2.2.2.1
theorem q_Ok.cok {A : q_A} (h : q_Ok A) : ∀ t p c, t < A.T → p < 3 → c ∈ A.txt t p → q_cok c := h.2.2.2.2.2.2.2.2.2.2.2.2.2.2.2.2.2.2.2.2.2.2.2.2.2.1
theorem q_Ok.txl {A : q_A} (h : q_Ok A) : ∀ t, t < A.T → q_to (A.txt t) 3 ≤ 160 := h.2.2.2.2.2.2.2.2.2.2.2.2.2.2.2.2.2.2.2.2.2.2.2.2.2.2
def q_Rw (A : q_A) (d : Nat → Nat → Int32) : Prop :=
  (d 0 13 = nI A.F) ∧
  (d 0 14 = nI A.L) ∧
  (d 0 15 = nI A.H) ∧
  (d 0 16 = nI A.K) ∧
  (d 0 17 = nI A.T) ∧
  (d 0 18 = nI A.img) ∧
  (d 7 2 = nI A.N) ∧
  (d 7 3 = nI A.law) ∧
  (d 8 0 = A.out) ∧
  (d 8 1 = A.on) ∧
  (d 8 2 = A.hour) ∧
  (d 8 3 = A.slips) ∧
  (d 20 2 = nI A.iN) ∧
  (d 20 3 = nI A.ilaw) ∧
  (d 21 0 = A.iout) ∧
  (d 21 1 = A.ion) ∧
  (d 21 2 = A.ihour) ∧
  (d 21 3 = A.islips) ∧
  (d 33 1 = nI A.B) ∧
  (∀ i, i < A.B → d 34 i = A.tape i) ∧
  (∀ i, i < A.F → d (45 + i) 0 = A.bears i) ∧
  (∀ i, i < A.F → d (45 + i) 1 = A.times i) ∧
  (∀ i, i < 6 → d (45 + i) 2 = q_bits A.L (fun l => decide (A.kind l = 3) && decide (A.more l = i))) ∧
  (∀ l, l < A.L → d (51 + l) 0 = nI (A.kind l)) ∧
  (∀ l, l < A.L → d (51 + l) 1 = nI (A.pow l)) ∧
  (∀ l, l < A.L → d (51 + l) 2 = nI (A.room l)) ∧
  (∀ l, l < A.L → d (51 + l) 3 = nI (A.sx l)) ∧
  (∀ l, l < A.L → d (51 + l) 4 = nI (A.sy l)) ∧
  (∀ l, l < A.L → d (51 + l) 5 = nI (A.more l)) ∧
  (∀ h l, h < A.H → l < A.L → d (62 + 3 * h) l = nI (A.fed h l)) ∧
  (∀ h f, h < A.H → f < 6 → d (63 + 3 * h) f = q_bits A.L (fun l => decide (A.fed h l = f))) ∧
  (∀ h f, A.H ≤ h → h < 12 → f < 6 → d (63 + 3 * h) f = 0) ∧
  (∀ k l, k < A.K → l < A.L → d (98 + 3 * k) l = nI (A.lab k l)) ∧
  (∀ k, k < A.K → d (97 + 3 * k) 2 = A.year k) ∧
  (∀ k, k < 10 → d (10 + k) 0 = A.ao k) ∧
  (∀ k, k < 10 → d (10 + k) 1 = A.an k) ∧
  (∀ k, k < 10 → d (10 + k) 2 = A.ah k) ∧
  (∀ k, k < 10 → d (10 + k) 3 = A.ar k) ∧
  (∀ k, k < 10 → d (10 + k) 4 = A.az k) ∧
  (∀ k, k < 10 → d (23 + k) 0 = A.io k) ∧
  (∀ k, k < 10 → d (23 + k) 1 = A.inn k) ∧
  (∀ k, k < 10 → d (23 + k) 2 = A.ih k) ∧
  (∀ k, k < 10 → d (23 + k) 3 = A.ir k) ∧
  (∀ k, k < 10 → d (23 + k) 4 = A.iz k) ∧
  (∀ t p, t < A.T → p < 3 → d (111 + 3 * t) p = nI (q_to (A.txt t) (p + 1))) ∧
  (∀ t p i, t < A.T → p < 3 → i < (A.txt t p).length → d (110 + 3 * t) (q_to (A.txt t) p + i) = q_stp ((A.txt t p).getD i 0)) ∧
  (∀ s, s < 4 → d (127 + 2 * s) 1 = A.sort s) ∧
  (∀ s, s < 4 → d (127 + 2 * s) 2 = nI (A.size s)) ∧
  (∀ s i, s < 4 → i < 40 → d (128 + 2 * s) i = A.cell s i)
theorem q_Rw.F {A : q_A} {d : Nat → Nat → Int32} (h : q_Rw A d) : d 0 13 = nI A.F := h.1
theorem q_Rw.L {A : q_A} {d : Nat → Nat → Int32} (h : q_Rw A d) : d 0 14 = nI A.L := h.2.1
theorem q_Rw.H {A : q_A} {d : Nat → Nat → Int32} (h : q_Rw A d) : d 0 15 = nI A.H := h.2.2.1
theorem q_Rw.K {A : q_A} {d : Nat → Nat → Int32} (h : q_Rw A d) : d 0 16 = nI A.K := h.2.2.2.1
theorem q_Rw.T {A : q_A} {d : Nat → Nat → Int32} (h : q_Rw A d) : d 0 17 = nI A.T := h.2.2.2.2.1
theorem q_Rw.img {A : q_A} {d : Nat → Nat → Int32} (h : q_Rw A d) : d 0 18 = nI A.img := h.2.2.2.2.2.1
theorem q_Rw.N {A : q_A} {d : Nat → Nat → Int32} (h : q_Rw A d) : d 7 2 = nI A.N := h.2.2.2.2.2.2.1
theorem q_Rw.law {A : q_A} {d : Nat → Nat → Int32} (h : q_Rw A d) : d 7 3 = nI A.law := h.2.2.2.2.2.2.2.1
theorem q_Rw.out {A : q_A} {d : Nat → Nat → Int32} (h : q_Rw A d) : d 8 0 = A.out := h.2.2.2.2.2.2.2.2.1
theorem q_Rw.on {A : q_A} {d : Nat → Nat → Int32} (h : q_Rw A d) : d 8 1 = A.on := h.2.2.2.2.2.2.2.2.2.1
theorem q_Rw.hour {A : q_A} {d : Nat → Nat → Int32} (h : q_Rw A d) : d 8 2 = A.hour := h.2.2.2.2.2.2.2.2.2.2.1
theorem q_Rw.slips {A : q_A} {d : Nat → Nat → Int32} (h : q_Rw A d) : d 8 3 = A.slips := h.2.2.2.2.2.2.2.2.2.2.2.1
theorem q_Rw.iN {A : q_A} {d : Nat → Nat → Int32} (h : q_Rw A d) : d 20 2 = nI A.iN := h.2.2.2.2.2.2.2.2.2.2.2.2.1
theorem q_Rw.ilaw {A : q_A} {d : Nat → Nat → Int32} (h : q_Rw A d) : d 20 3 = nI A.ilaw := h.2.2.2.2.2.2.2.2.2.2.2.2.2.1
theorem q_Rw.iout {A : q_A} {d : Nat → Nat → Int32} (h : q_Rw A d) : d 21 0 = A.iout := h.2.2.2.2.2.2.2.2.2.2.2.2.2.2.1
theorem q_Rw.ion {A : q_A} {d : Nat → Nat → Int32} (h : q_Rw A d) : d 21 1 = A.ion := h.2.2.2.2.2.2.2.2.2.2.2.2.2.2.2.1
theorem q_Rw.ihour {A : q_A} {d : Nat → Nat → Int32} (h : q_Rw A d) : d 21 2 = A.ihour := h.2.2.2.2.2.2.2.2.2.2.2.2.2.2.2.2.1
theorem q_Rw.islips {A : q_A} {d : Nat → Nat → Int32} (h : q_Rw A d) : d 21 3 = A.islips := h.2.2.2.2.2.2.2.2.2.2.2.2.2.2.2.2.2.1
theorem q_Rw.B {A : q_A} {d : Nat → Nat → Int32} (h : q_Rw A d) : d 33 1 = nI A.B := h.2.2.2.2.2.2.2.2.2.2.2.2.2.2.2.2.2.2.1
theorem q_Rw.tape {A : q_A} {d : Nat → Nat → Int32} (h : q_Rw A d) : ∀ i, i < A.B → d 34 i = A.tape i := h.2.2.2.2.2.2.2.2.2.2.2.2.2.2.2.2.2.2.2.1
theorem q_Rw.bears {A : q_A} {d : Nat → Nat → Int32} (h : q_Rw A d) : ∀ i, i < A.F → d (45 + i) 0 = A.bears i := h.2.2.2.2.2.2.2.2.2.2.2.2.2.2.2.2.2.2.2.2.1
theorem q_Rw.times {A : q_A} {d : Nat → Nat → Int32} (h : q_Rw A d) : ∀ i, i < A.F → d (45 + i) 1 = A.times i := h.2.2.2.2.2.2.2.2.2.2.2.2.2.2.2.2.2.2.2.2.2.1
theorem q_Rw.lends {A : q_A} {d : Nat → Nat → Int32} (h : q_Rw A d) : ∀ i, i < 6 → d (45 + i) 2 = q_bits A.L (fun l => decide (A.kind l = 3) && decide (A.more l = i)) := h.2.2.2.2.2.2.2.2.2.2.2.2.2.2.2.2.2.2.2.2.2.2.1
theorem q_Rw.kind {A : q_A} {d : Nat → Nat → Int32} (h : q_Rw A d) : ∀ l, l < A.L → d (51 + l) 0 = nI (A.kind l) := h.2.2.2.2.2.2.2.2.2.2.2.2.2.2.2.2.2.2.2.2.2.2.2.1
theorem q_Rw.pow {A : q_A} {d : Nat → Nat → Int32} (h : q_Rw A d) : ∀ l, l < A.L → d (51 + l) 1 = nI (A.pow l) := h.2.2.2.2.2.2.2.2.2.2.2.2.2.2.2.2.2.2.2.2.2.2.2.2.1
theorem q_Rw.room {A : q_A} {d : Nat → Nat → Int32} (h : q_Rw A d) : ∀ l, l < A.L → d (51 + l) 2 = nI (A.room l) := h.2.2.2.2.2.2.2.2.2.2.2.2.2.2.2.2.2.2.2.2.2.2.2.2.2.1
theorem q_Rw.sx {A : q_A} {d : Nat → Nat → Int32} (h : q_Rw A d) : ∀ l, l < A.L → d (51 + l) 3 = nI (A.sx l) := h.2.2.2.2.2.2.2.2.2.2.2.2.2.2.2.2.2.2.2.2.2.2.2.2.2.2.1
theorem q_Rw.sy {A : q_A} {d : Nat → Nat → Int32} (h : q_Rw A d) : ∀ l, l < A.L → d (51 + l) 4 = nI (A.sy l) := h.2.2.2.2.2.2.2.2.2.2.2.2.2.2.2.2.2.2.2.2.2.2.2.2.2.2.2.1
theorem q_Rw.more {A : q_A} {d : Nat → Nat → Int32} (h : q_Rw A d) : ∀ l, l < A.L → d (51 + l) 5 = nI (A.more l) := h.2.2.2.2.2.2.2.2.2.2.2.2.2.2.2.2.2.2.2.2.2.2.2.2.2.2.2.2.1
theorem q_Rw.fed {A : q_A} {d : Nat → Nat → Int32} (h : q_Rw A d) : ∀ h l, h < A.H → l < A.L → d (62 + 3 * h) l = nI (A.fed h l) := h.2.2.2.2.2.2.2.2.2.2.2.2.2.2.2.2.2.2.2.2.2.2.2.2.2.2.2.2.2.1
theorem q_Rw.feeds {A : q_A} {d : Nat → Nat → Int32} (h : q_Rw A d) : ∀ h f, h < A.H → f < 6 → d (63 + 3 * h) f = q_bits A.L (fun l => decide (A.fed h l = f)) := h.2.2.2.2.2.2.2.2.2.2.2.2.2.2.2.2.2.2.2.2.2.2.2.2.2.2.2.2.2.2.1
theorem q_Rw.feeds0 {A : q_A} {d : Nat → Nat → Int32} (h : q_Rw A d) : ∀ h f, A.H ≤ h → h < 12 → f < 6 → d (63 + 3 * h) f = 0 := h.2.2.2.2.2.2.2.2.2.2.2.2.2.2.2.2.2.2.2.2.2.2.2.2.2.2.2.2.2.2.2.1
theorem q_Rw.lab {A : q_A} {d : Nat → Nat → Int32} (h : q_Rw A d) : ∀ k l, k < A.K → l < A.L → d (98 + 3 * k) l = nI (A.lab k l) := h.2.2.2.2.2.2.2.2.2.2.2.2.2.2.2.2.2.2.2.2.2.2.2.2.2.2.2.2.2.2.2.2.1
theorem q_Rw.year {A : q_A} {d : Nat → Nat → Int32} (h : q_Rw A d) : ∀ k, k < A.K → d (97 + 3 * k) 2 = A.year k := h.2.2.2.2.2.2.2.2.2.2.2.2.2.2.2.2.2.2.2.2.2.2.2.2.2.2.2.2.2.2.2.2.2.1
theorem q_Rw.ao {A : q_A} {d : Nat → Nat → Int32} (h : q_Rw A d) : ∀ k, k < 10 → d (10 + k) 0 = A.ao k := h.2.2.2.2.2.2.2.2.2.2.2.2.2.2.2.2.2.2.2.2.2.2.2.2.2.2.2.2.2.2.2.2.2.2.1
theorem q_Rw.an {A : q_A} {d : Nat → Nat → Int32} (h : q_Rw A d) : ∀ k, k < 10 → d (10 + k) 1 = A.an k := h.2.2.2.2.2.2.2.2.2.2.2.2.2.2.2.2.2.2.2.2.2.2.2.2.2.2.2.2.2.2.2.2.2.2.2.1
theorem q_Rw.ah {A : q_A} {d : Nat → Nat → Int32} (h : q_Rw A d) : ∀ k, k < 10 → d (10 + k) 2 = A.ah k := h.2.2.2.2.2.2.2.2.2.2.2.2.2.2.2.2.2.2.2.2.2.2.2.2.2.2.2.2.2.2.2.2.2.2.2.2.1
theorem q_Rw.ar {A : q_A} {d : Nat → Nat → Int32} (h : q_Rw A d) : ∀ k, k < 10 → d (10 + k) 3 = A.ar k := h.2.2.2.2.2.2.2.2.2.2.2.2.2.2.2.2.2.2.2.2.2.2.2.2.2.2.2.2.2.2.2.2.2.2.2.2.2.1
theorem q_Rw.az {A : q_A} {d : Nat → Nat → Int32} (h : q_Rw A d) : ∀ k, k < 10 → d (10 + k) 4 = A.az k := h.2.2.2.2.2.2.2.2.2.2.2.2.2.2.2.2.2.2.2.2.2.2.2.2.2.2.2.2.2.2.2.2.2.2.2.2.2.2.1
theorem q_Rw.io {A : q_A} {d : Nat → Nat → Int32} (h : q_Rw A d) : ∀ k, k < 10 → d (23 + k) 0 = A.io k := h.2.2.2.2.2.2.2.2.2.2.2.2.2.2.2.2.2.2.2.2.2.2.2.2.2.2.2.2.2.2.2.2.2.2.2.2.2.2.2.1
theorem q_Rw.inn {A : q_A} {d : Nat → Nat → Int32} (h : q_Rw A d) : ∀ k, k < 10 → d (23 + k) 1 = A.inn k := h.2.2.2.2.2.2.2.2.2.2.2.2.2.2.2.2.2.2.2.2.2.2.2.2.2.2.2.2.2.2.2.2.2.2.2.2.2.2.2.2.1
theorem q_Rw.ih {A : q_A} {d : Nat → Nat → Int32} (h : q_Rw A d) : ∀ k, k < 10 → d (23 + k) 2 = A.ih k := h.2.2.2.2.2.2.2.2.2.2.2.2.2.2.2.2.2.2.2.2.2.2.2.2.2.2.2.2.2.2.2.2.2.2.2.2.2.2.2.2.2.1
theorem q_Rw.ir {A : q_A} {d : Nat → Nat → Int32} (h : q_Rw A d) : ∀ k, k < 10 → d (23 + k) 3 = A.ir k := h.2.2.2.2.2.2.2.2.2.2.2.2.2.2.2.2.2.2.2.2.2.2.2.2.2.2.2.2.2.2.2.2.2.2.2.2.2.2.2.2.2.2.1
theorem q_Rw.iz {A : q_A} {d : Nat → Nat → Int32} (h : q_Rw A d) : ∀ k, k < 10 → d (23 + k) 4 = A.iz k := h.2.2.2.2.2.2.2.2.2.2.2.2.2.2.2.2.2.2.2.2.2.2.2.2.2.2.2.2.2.2.2.2.2.2.2.2.2.2.2.2.2.2.2.1
theorem q_Rw.ends {A : q_A} {d : Nat → Nat → Int32} (h : q_Rw A d) : ∀ t p, t < A.T → p < 3 → d (111 + 3 * t) p = nI (q_to (A.txt t) (p + 1)) := h.2.2.2.2.2.2.2.2.2.2.2.2.2.2.2.2.2.2.2.2.2.2.2.2.2.2.2.2.2.2.2.2.2.2.2.2.2.2.2.2.2.2.2.2.1
theorem q_Rw.stp {A : q_A} {d : Nat → Nat → Int32} (h : q_Rw A d) : ∀ t p i, t < A.T → p < 3 → i < (A.txt t p).length → d (110 + 3 * t) (q_to (A.txt t) p + i) = q_stp ((A.txt t p).getD i 0) := h.2.2.2.2.2.2.2.2.2.2.2.2.2.2.2.2.2.2.2.2.2.2.2.2.2.2.2.2.2.2.2.2.2.2.2.2.2.2.2.2.2.2.2.2.2.1
theorem q_Rw.sort {A : q_A} {d : Nat → Nat → Int32} (h : q_Rw A d) : ∀ s, s < 4 → d (127 + 2 * s) 1 = A.sort s := h.2.2.2.2.2.2.2.2.2.2.2.2.2.2.2.2.2.2.2.2.2.2.2.2.2.2.2.2.2.2.2.2.2.2.2.2.2.2.2.2.2.2.2.2.2.2.1
theorem q_Rw.size {A : q_A} {d : Nat → Nat → Int32} (h : q_Rw A d) : ∀ s, s < 4 → d (127 + 2 * s) 2 = nI (A.size s) := h.2.2.2.2.2.2.2.2.2.2.2.2.2.2.2.2.2.2.2.2.2.2.2.2.2.2.2.2.2.2.2.2.2.2.2.2.2.2.2.2.2.2.2.2.2.2.2.1
theorem q_Rw.cell {A : q_A} {d : Nat → Nat → Int32} (h : q_Rw A d) : ∀ s i, s < 4 → i < 40 → d (128 + 2 * s) i = A.cell s i := h.2.2.2.2.2.2.2.2.2.2.2.2.2.2.2.2.2.2.2.2.2.2.2.2.2.2.2.2.2.2.2.2.2.2.2.2.2.2.2.2.2.2.2.2.2.2.2.2
def q_Rr (A : q_A) (d : Nat → Nat → Int32) : Prop :=
  (d 135 0 = A.out) ∧
  (d 135 1 = A.on) ∧
  (d 135 2 = A.hour) ∧
  (d 135 3 = A.slips) ∧
  (d 135 4 = nI A.F) ∧
  (d 135 7 = nI A.L) ∧
  (d 135 14 = nI A.H) ∧
  (d 135 16 = nI A.N) ∧
  (d 135 22 = nI A.K) ∧
  (d 135 26 = nI A.B) ∧
  (d 135 29 = nI A.T) ∧
  (d 135 30 = nI A.law) ∧
  (d 135 31 = nI A.img) ∧
  (d 135 32 = A.iout) ∧
  (d 135 33 = A.ion) ∧
  (d 135 34 = A.ihour) ∧
  (d 135 35 = A.islips) ∧
  (d 135 36 = nI A.iN) ∧
  (d 135 37 = nI A.ilaw) ∧
  (∀ i, i < A.F → d 136 i = A.bears i) ∧
  (∀ i, i < A.F → d 137 i = A.times i) ∧
  (∀ l, l < A.L → d 138 l = nI (A.kind l)) ∧
  (∀ l, l < A.L → d 139 l = nI (A.pow l)) ∧
  (∀ l, l < A.L → d 140 l = nI (A.room l)) ∧
  (∀ l, l < A.L → d 141 l = nI (A.sx l)) ∧
  (∀ l, l < A.L → d 142 l = nI (A.sy l)) ∧
  (∀ l, l < A.L → d 143 l = nI (A.more l)) ∧
  (∀ h l, h < A.H → l < A.L → d 144 (10 * h + l) = nI (A.fed h l)) ∧
  (∀ k, k < 10 → d 145 k = A.ao k) ∧
  (∀ k, k < 10 → d 146 k = A.an k) ∧
  (∀ k, k < 10 → d 147 k = A.ah k) ∧
  (∀ k, k < 10 → d 148 k = A.ar k) ∧
  (∀ k, k < 10 → d 149 k = A.az k) ∧
  (∀ k, k < A.K → d 150 k = A.year k) ∧
  (∀ k l, k < A.K → l < A.L → d 151 (10 * k + l) = nI (A.lab k l)) ∧
  (∀ i, i < A.B → d 152 i = A.tape i) ∧
  (∀ t p i, t < A.T → p < 3 → i < (A.txt t p).length → d 153 (200 * t + (q_to (A.txt t) p + i)) = nI ((A.txt t p).getD i 0)) ∧
  (∀ t p, t < A.T → p < 4 → d 154 (4 * t + p) = nI (q_to (A.txt t) p)) ∧
  (∀ k, k < 10 → d 155 k = A.io k) ∧
  (∀ k, k < 10 → d 156 k = A.inn k) ∧
  (∀ k, k < 10 → d 157 k = A.ih k) ∧
  (∀ k, k < 10 → d 158 k = A.ir k) ∧
  (∀ k, k < 10 → d 159 k = A.iz k) ∧
  (∀ s, s < 4 → d 160 s = A.sort s) ∧
  (∀ s, s < 4 → d 161 s = nI (A.size s)) ∧
  (∀ s i, s < 4 → i < 40 → d 162 (40 * s + i) = A.cell s i)
theorem q_Rr.out {A : q_A} {d : Nat → Nat → Int32} (h : q_Rr A d) : d 135 0 = A.out := h.1
theorem q_Rr.on {A : q_A} {d : Nat → Nat → Int32} (h : q_Rr A d) : d 135 1 = A.on := h.2.1
theorem q_Rr.hour {A : q_A} {d : Nat → Nat → Int32} (h : q_Rr A d) : d 135 2 = A.hour := h.2.2.1
theorem q_Rr.slips {A : q_A} {d : Nat → Nat → Int32} (h : q_Rr A d) : d 135 3 = A.slips := h.2.2.2.1
theorem q_Rr.F {A : q_A} {d : Nat → Nat → Int32} (h : q_Rr A d) : d 135 4 = nI A.F := h.2.2.2.2.1
theorem q_Rr.L {A : q_A} {d : Nat → Nat → Int32} (h : q_Rr A d) : d 135 7 = nI A.L := h.2.2.2.2.2.1
theorem q_Rr.H {A : q_A} {d : Nat → Nat → Int32} (h : q_Rr A d) : d 135 14 = nI A.H := h.2.2.2.2.2.2.1
theorem q_Rr.N {A : q_A} {d : Nat → Nat → Int32} (h : q_Rr A d) : d 135 16 = nI A.N := h.2.2.2.2.2.2.2.1
theorem q_Rr.K {A : q_A} {d : Nat → Nat → Int32} (h : q_Rr A d) : d 135 22 = nI A.K := h.2.2.2.2.2.2.2.2.1
theorem q_Rr.B {A : q_A} {d : Nat → Nat → Int32} (h : q_Rr A d) : d 135 26 = nI A.B := h.2.2.2.2.2.2.2.2.2.1
theorem q_Rr.T {A : q_A} {d : Nat → Nat → Int32} (h : q_Rr A d) : d 135 29 = nI A.T := h.2.2.2.2.2.2.2.2.2.2.1
theorem q_Rr.law {A : q_A} {d : Nat → Nat → Int32} (h : q_Rr A d) : d 135 30 = nI A.law := h.2.2.2.2.2.2.2.2.2.2.2.1
theorem q_Rr.img {A : q_A} {d : Nat → Nat → Int32} (h : q_Rr A d) : d 135 31 = nI A.img := h.2.2.2.2.2.2.2.2.2.2.2.2.1
theorem q_Rr.iout {A : q_A} {d : Nat → Nat → Int32} (h : q_Rr A d) : d 135 32 = A.iout := h.2.2.2.2.2.2.2.2.2.2.2.2.2.1
theorem q_Rr.ion {A : q_A} {d : Nat → Nat → Int32} (h : q_Rr A d) : d 135 33 = A.ion := h.2.2.2.2.2.2.2.2.2.2.2.2.2.2.1
theorem q_Rr.ihour {A : q_A} {d : Nat → Nat → Int32} (h : q_Rr A d) : d 135 34 = A.ihour := h.2.2.2.2.2.2.2.2.2.2.2.2.2.2.2.1
theorem q_Rr.islips {A : q_A} {d : Nat → Nat → Int32} (h : q_Rr A d) : d 135 35 = A.islips := h.2.2.2.2.2.2.2.2.2.2.2.2.2.2.2.2.1
theorem q_Rr.iN {A : q_A} {d : Nat → Nat → Int32} (h : q_Rr A d) : d 135 36 = nI A.iN := h.2.2.2.2.2.2.2.2.2.2.2.2.2.2.2.2.2.1
theorem q_Rr.ilaw {A : q_A} {d : Nat → Nat → Int32} (h : q_Rr A d) : d 135 37 = nI A.ilaw := h.2.2.2.2.2.2.2.2.2.2.2.2.2.2.2.2.2.2.1
theorem q_Rr.bears {A : q_A} {d : Nat → Nat → Int32} (h : q_Rr A d) : ∀ i, i < A.F → d 136 i = A.bears i := h.2.2.2.2.2.2.2.2.2.2.2.2.2.2.2.2.2.2.2.1
theorem q_Rr.times {A : q_A} {d : Nat → Nat → Int32} (h : q_Rr A d) : ∀ i, i < A.F → d 137 i = A.times i := h.2.2.2.2.2.2.2.2.2.2.2.2.2.2.2.2.2.2.2.2.1
theorem q_Rr.kind {A : q_A} {d : Nat → Nat → Int32} (h : q_Rr A d) : ∀ l, l < A.L → d 138 l = nI (A.kind l) := h.2.2.2.2.2.2.2.2.2.2.2.2.2.2.2.2.2.2.2.2.2.1
theorem q_Rr.pow {A : q_A} {d : Nat → Nat → Int32} (h : q_Rr A d) : ∀ l, l < A.L → d 139 l = nI (A.pow l) := h.2.2.2.2.2.2.2.2.2.2.2.2.2.2.2.2.2.2.2.2.2.2.1
theorem q_Rr.room {A : q_A} {d : Nat → Nat → Int32} (h : q_Rr A d) : ∀ l, l < A.L → d 140 l = nI (A.room l) := h.2.2.2.2.2.2.2.2.2.2.2.2.2.2.2.2.2.2.2.2.2.2.2.1
theorem q_Rr.sx {A : q_A} {d : Nat → Nat → Int32} (h : q_Rr A d) : ∀ l, l < A.L → d 141 l = nI (A.sx l) := h.2.2.2.2.2.2.2.2.2.2.2.2.2.2.2.2.2.2.2.2.2.2.2.2.1
theorem q_Rr.sy {A : q_A} {d : Nat → Nat → Int32} (h : q_Rr A d) : ∀ l, l < A.L → d 142 l = nI (A.sy l) := h.2.2.2.2.2.2.2.2.2.2.2.2.2.2.2.2.2.2.2.2.2.2.2.2.2.1
theorem q_Rr.more {A : q_A} {d : Nat → Nat → Int32} (h : q_Rr A d) : ∀ l, l < A.L → d 143 l = nI (A.more l) := h.2.2.2.2.2.2.2.2.2.2.2.2.2.2.2.2.2.2.2.2.2.2.2.2.2.2.1
theorem q_Rr.fed {A : q_A} {d : Nat → Nat → Int32} (h : q_Rr A d) : ∀ h l, h < A.H → l < A.L → d 144 (10 * h + l) = nI (A.fed h l) := h.2.2.2.2.2.2.2.2.2.2.2.2.2.2.2.2.2.2.2.2.2.2.2.2.2.2.2.1
theorem q_Rr.ao {A : q_A} {d : Nat → Nat → Int32} (h : q_Rr A d) : ∀ k, k < 10 → d 145 k = A.ao k := h.2.2.2.2.2.2.2.2.2.2.2.2.2.2.2.2.2.2.2.2.2.2.2.2.2.2.2.2.1
theorem q_Rr.an {A : q_A} {d : Nat → Nat → Int32} (h : q_Rr A d) : ∀ k, k < 10 → d 146 k = A.an k := h.2.2.2.2.2.2.2.2.2.2.2.2.2.2.2.2.2.2.2.2.2.2.2.2.2.2.2.2.2.1
theorem q_Rr.ah {A : q_A} {d : Nat → Nat → Int32} (h : q_Rr A d) : ∀ k, k < 10 → d 147 k = A.ah k := h.2.2.2.2.2.2.2.2.2.2.2.2.2.2.2.2.2.2.2.2.2.2.2.2.2.2.2.2.2.2.1
theorem q_Rr.ar {A : q_A} {d : Nat → Nat → Int32} (h : q_Rr A d) : ∀ k, k < 10 → d 148 k = A.ar k := h.2.2.2.2.2.2.2.2.2.2.2.2.2.2.2.2.2.2.2.2.2.2.2.2.2.2.2.2.2.2.2.1
theorem q_Rr.az {A : q_A} {d : Nat → Nat → Int32} (h : q_Rr A d) : ∀ k, k < 10 → d 149 k = A.az k := h.2.2.2.2.2.2.2.2.2.2.2.2.2.2.2.2.2.2.2.2.2.2.2.2.2.2.2.2.2.2.2.2.1
theorem q_Rr.year {A : q_A} {d : Nat → Nat → Int32} (h : q_Rr A d) : ∀ k, k < A.K → d 150 k = A.year k := h.2.2.2.2.2.2.2.2.2.2.2.2.2.2.2.2.2.2.2.2.2.2.2.2.2.2.2.2.2.2.2.2.2.1
theorem q_Rr.lab {A : q_A} {d : Nat → Nat → Int32} (h : q_Rr A d) : ∀ k l, k < A.K → l < A.L → d 151 (10 * k + l) = nI (A.lab k l) := h.2.2.2.2.2.2.2.2.2.2.2.2.2.2.2.2.2.2.2.2.2.2.2.2.2.2.2.2.2.2.2.2.2.2.1
theorem q_Rr.tape {A : q_A} {d : Nat → Nat → Int32} (h : q_Rr A d) : ∀ i, i < A.B → d 152 i = A.tape i := h.2.2.2.2.2.2.2.2.2.2.2.2.2.2.2.2.2.2.2.2.2.2.2.2.2.2.2.2.2.2.2.2.2.2.2.1
theorem q_Rr.cod {A : q_A} {d : Nat → Nat → Int32} (h : q_Rr A d) : ∀ t p i, t < A.T → p < 3 → i < (A.txt t p).length → d 153 (200 * t + (q_to (A.txt t) p + i)) = nI ((A.txt t p).getD i 0) := h.2.2.2.2.2.2.2.2.2.2.2.2.2.2.2.2.2.2.2.2.2.2.2.2.2.2.2.2.2.2.2.2.2.2.2.2.1
theorem q_Rr.starts {A : q_A} {d : Nat → Nat → Int32} (h : q_Rr A d) : ∀ t p, t < A.T → p < 4 → d 154 (4 * t + p) = nI (q_to (A.txt t) p) := h.2.2.2.2.2.2.2.2.2.2.2.2.2.2.2.2.2.2.2.2.2.2.2.2.2.2.2.2.2.2.2.2.2.2.2.2.2.1
theorem q_Rr.io {A : q_A} {d : Nat → Nat → Int32} (h : q_Rr A d) : ∀ k, k < 10 → d 155 k = A.io k := h.2.2.2.2.2.2.2.2.2.2.2.2.2.2.2.2.2.2.2.2.2.2.2.2.2.2.2.2.2.2.2.2.2.2.2.2.2.2.1
theorem q_Rr.inn {A : q_A} {d : Nat → Nat → Int32} (h : q_Rr A d) : ∀ k, k < 10 → d 156 k = A.inn k := h.2.2.2.2.2.2.2.2.2.2.2.2.2.2.2.2.2.2.2.2.2.2.2.2.2.2.2.2.2.2.2.2.2.2.2.2.2.2.2.1
theorem q_Rr.ih {A : q_A} {d : Nat → Nat → Int32} (h : q_Rr A d) : ∀ k, k < 10 → d 157 k = A.ih k := h.2.2.2.2.2.2.2.2.2.2.2.2.2.2.2.2.2.2.2.2.2.2.2.2.2.2.2.2.2.2.2.2.2.2.2.2.2.2.2.2.1
theorem q_Rr.ir {A : q_A} {d : Nat → Nat → Int32} (h : q_Rr A d) : ∀ k, k < 10 → d 158 k = A.ir k := h.2.2.2.2.2.2.2.2.2.2.2.2.2.2.2.2.2.2.2.2.2.2.2.2.2.2.2.2.2.2.2.2.2.2.2.2.2.2.2.2.2.1
theorem q_Rr.iz {A : q_A} {d : Nat → Nat → Int32} (h : q_Rr A d) : ∀ k, k < 10 → d 159 k = A.iz k := h.2.2.2.2.2.2.2.2.2.2.2.2.2.2.2.2.2.2.2.2.2.2.2.2.2.2.2.2.2.2.2.2.2.2.2.2.2.2.2.2.2.2.1
theorem q_Rr.sort {A : q_A} {d : Nat → Nat → Int32} (h : q_Rr A d) : ∀ s, s < 4 → d 160 s = A.sort s := h.2.2.2.2.2.2.2.2.2.2.2.2.2.2.2.2.2.2.2.2.2.2.2.2.2.2.2.2.2.2.2.2.2.2.2.2.2.2.2.2.2.2.2.1
theorem q_Rr.size {A : q_A} {d : Nat → Nat → Int32} (h : q_Rr A d) : ∀ s, s < 4 → d 161 s = nI (A.size s) := h.2.2.2.2.2.2.2.2.2.2.2.2.2.2.2.2.2.2.2.2.2.2.2.2.2.2.2.2.2.2.2.2.2.2.2.2.2.2.2.2.2.2.2.2.1
theorem q_Rr.cell {A : q_A} {d : Nat → Nat → Int32} (h : q_Rr A d) : ∀ s i, s < 4 → i < 40 → d 162 (40 * s + i) = A.cell s i := h.2.2.2.2.2.2.2.2.2.2.2.2.2.2.2.2.2.2.2.2.2.2.2.2.2.2.2.2.2.2.2.2.2.2.2.2.2.2.2.2.2.2.2.2.2
/-- the reference's words, as longs -/
def q_Rl (w : Nat → Nat → Int64) : Prop := ∀ i, i < 12 → w 163 i = ir_w43 163 i
def q_J (A : q_A) (d : Nat → Nat → Int32) (w : Nat → Nat → Int64) : Prop := q_Ok A ∧ q_Rw A d ∧ q_Rr A d ∧ q_Rl w
theorem q_J.ok {A : q_A} {d : Nat → Nat → Int32} {w : Nat → Nat → Int64} (h : q_J A d w) : q_Ok A := h.1
theorem q_J.cw {A : q_A} {d : Nat → Nat → Int32} {w : Nat → Nat → Int64} (h : q_J A d w) : q_Rw A d := h.2.1
theorem q_J.cr {A : q_A} {d : Nat → Nat → Int32} {w : Nat → Nat → Int64} (h : q_J A d w) : q_Rr A d := h.2.2.1
theorem q_J.cl {A : q_A} {d : Nat → Nat → Int32} {w : Nat → Nat → Int64} (h : q_J A d w) : q_Rl w := h.2.2.2
/-- places that hold for longer than a call -/
def q_kp (o k : Nat) : Prop := ¬ (o = 33 ∧ 2 ≤ k) ∧ ¬ (35 ≤ o ∧ o ≤ 40) ∧ ¬ (o = 43 ∨ o = 44) ∧ ¬ (o = 135 ∧ 46 ≤ k) ∧ ¬ 164 ≤ o
def q_sc (d d' : Nat → Nat → Int32) : Prop := ∀ o k, q_kp o k → d' o k = d o k
theorem q_sc.rf (d : Nat → Nat → Int32) : q_sc d d := fun _ _ _ => rfl
theorem q_sc.tr {a b c : Nat → Nat → Int32} (h1 : q_sc a b) (h2 : q_sc b c) : q_sc a c := fun o k h => (h2 o k h).trans (h1 o k h)
theorem q_sc.st {d d' : Nat → Nat → Int32} {o k : Nat} {v : Int32} (h : q_sc d d') (n : ¬ q_kp o k) : q_sc d (q_d d' o k v) := fun a b hk => by
  rw [q_d_ne, h a b hk]
  by_cases e : a = o
  · subst e
    exact Or.inr fun e2 => n (e2 ▸ hk)
  · exact Or.inl e
theorem q_Rw.fr {A : q_A} {d d2 : Nat → Nat → Int32} (ok : q_Ok A) (hh : q_Rw A d) (e : q_sc d d2) : q_Rw A d2 := by
  have oF := ok.F; have oL := ok.L; have oH := ok.H; have oK := ok.K; have oT := ok.T; have oB := ok.B
  refine ⟨?_, ?_, ?_, ?_, ?_, ?_, ?_, ?_, ?_, ?_, ?_, ?_, ?_, ?_, ?_, ?_, ?_, ?_, ?_, ?_, ?_, ?_, ?_, ?_, ?_, ?_, ?_, ?_, ?_, ?_, ?_, ?_, ?_, ?_, ?_, ?_, ?_, ?_, ?_, ?_, ?_, ?_, ?_, ?_, ?_, ?_, ?_, ?_, ?_⟩
  · rw [e _ _ (by unfold q_kp; omega)]; exact hh.F
  · rw [e _ _ (by unfold q_kp; omega)]; exact hh.L
  · rw [e _ _ (by unfold q_kp; omega)]; exact hh.H
  · rw [e _ _ (by unfold q_kp; omega)]; exact hh.K
  · rw [e _ _ (by unfold q_kp; omega)]; exact hh.T
  · rw [e _ _ (by unfold q_kp; omega)]; exact hh.img
  · rw [e _ _ (by unfold q_kp; omega)]; exact hh.N
  · rw [e _ _ (by unfold q_kp; omega)]; exact hh.law
  · rw [e _ _ (by unfold q_kp; omega)]; exact hh.out
  · rw [e _ _ (by unfold q_kp; omega)]; exact hh.on
  · rw [e _ _ (by unfold q_kp; omega)]; exact hh.hour
  · rw [e _ _ (by unfold q_kp; omega)]; exact hh.slips
  · rw [e _ _ (by unfold q_kp; omega)]; exact hh.iN
  · rw [e _ _ (by unfold q_kp; omega)]; exact hh.ilaw
  · rw [e _ _ (by unfold q_kp; omega)]; exact hh.iout
  · rw [e _ _ (by unfold q_kp; omega)]; exact hh.ion
  · rw [e _ _ (by unfold q_kp; omega)]; exact hh.ihour
  · rw [e _ _ (by unfold q_kp; omega)]; exact hh.islips
  · rw [e _ _ (by unfold q_kp; omega)]; exact hh.B
  · intro i h0; rw [e _ _ (by unfold q_kp; omega)]; exact hh.tape _ h0
  · intro i h0; rw [e _ _ (by unfold q_kp; omega)]; exact hh.bears _ h0
  · intro i h0; rw [e _ _ (by unfold q_kp; omega)]; exact hh.times _ h0
  · intro i h0; rw [e _ _ (by unfold q_kp; omega)]; exact hh.lends _ h0
  · intro l h0; rw [e _ _ (by unfold q_kp; omega)]; exact hh.kind _ h0
  · intro l h0; rw [e _ _ (by unfold q_kp; omega)]; exact hh.pow _ h0
  · intro l h0; rw [e _ _ (by unfold q_kp; omega)]; exact hh.room _ h0
  · intro l h0; rw [e _ _ (by unfold q_kp; omega)]; exact hh.sx _ h0
  · intro l h0; rw [e _ _ (by unfold q_kp; omega)]; exact hh.sy _ h0
  · intro l h0; rw [e _ _ (by unfold q_kp; omega)]; exact hh.more _ h0
  · intro h l h0 h1; rw [e _ _ (by unfold q_kp; omega)]; exact hh.fed _ _ h0 h1
  · intro h f h0 h1; rw [e _ _ (by unfold q_kp; omega)]; exact hh.feeds _ _ h0 h1
  · intro h f h0 h1 h2; rw [e _ _ (by unfold q_kp; omega)]; exact hh.feeds0 _ _ h0 h1 h2
  · intro k l h0 h1; rw [e _ _ (by unfold q_kp; omega)]; exact hh.lab _ _ h0 h1
  · intro k h0; rw [e _ _ (by unfold q_kp; omega)]; exact hh.year _ h0
  · intro k h0; rw [e _ _ (by unfold q_kp; omega)]; exact hh.ao _ h0
  · intro k h0; rw [e _ _ (by unfold q_kp; omega)]; exact hh.an _ h0
  · intro k h0; rw [e _ _ (by unfold q_kp; omega)]; exact hh.ah _ h0
  · intro k h0; rw [e _ _ (by unfold q_kp; omega)]; exact hh.ar _ h0
  · intro k h0; rw [e _ _ (by unfold q_kp; omega)]; exact hh.az _ h0
  · intro k h0; rw [e _ _ (by unfold q_kp; omega)]; exact hh.io _ h0
  · intro k h0; rw [e _ _ (by unfold q_kp; omega)]; exact hh.inn _ h0
  · intro k h0; rw [e _ _ (by unfold q_kp; omega)]; exact hh.ih _ h0
  · intro k h0; rw [e _ _ (by unfold q_kp; omega)]; exact hh.ir _ h0
  · intro k h0; rw [e _ _ (by unfold q_kp; omega)]; exact hh.iz _ h0
  · intro t p h0 h1; rw [e _ _ (by unfold q_kp; omega)]; exact hh.ends _ _ h0 h1
  · intro t p i h0 h1 h2; rw [e _ _ (by unfold q_kp; omega)]; exact hh.stp _ _ _ h0 h1 h2
  · intro s h0; rw [e _ _ (by unfold q_kp; omega)]; exact hh.sort _ h0
  · intro s h0; rw [e _ _ (by unfold q_kp; omega)]; exact hh.size _ h0
  · intro s i h0 h1; rw [e _ _ (by unfold q_kp; omega)]; exact hh.cell _ _ h0 h1
theorem q_Rr.fr {A : q_A} {d d2 : Nat → Nat → Int32} (ok : q_Ok A) (hh : q_Rr A d) (e : q_sc d d2) : q_Rr A d2 := by
  have oF := ok.F; have oL := ok.L; have oH := ok.H; have oK := ok.K; have oT := ok.T; have oB := ok.B
  refine ⟨?_, ?_, ?_, ?_, ?_, ?_, ?_, ?_, ?_, ?_, ?_, ?_, ?_, ?_, ?_, ?_, ?_, ?_, ?_, ?_, ?_, ?_, ?_, ?_, ?_, ?_, ?_, ?_, ?_, ?_, ?_, ?_, ?_, ?_, ?_, ?_, ?_, ?_, ?_, ?_, ?_, ?_, ?_, ?_, ?_, ?_⟩
  · rw [e _ _ (by unfold q_kp; omega)]; exact hh.out
  · rw [e _ _ (by unfold q_kp; omega)]; exact hh.on
  · rw [e _ _ (by unfold q_kp; omega)]; exact hh.hour
  · rw [e _ _ (by unfold q_kp; omega)]; exact hh.slips
  · rw [e _ _ (by unfold q_kp; omega)]; exact hh.F
  · rw [e _ _ (by unfold q_kp; omega)]; exact hh.L
  · rw [e _ _ (by unfold q_kp; omega)]; exact hh.H
  · rw [e _ _ (by unfold q_kp; omega)]; exact hh.N
  · rw [e _ _ (by unfold q_kp; omega)]; exact hh.K
  · rw [e _ _ (by unfold q_kp; omega)]; exact hh.B
  · rw [e _ _ (by unfold q_kp; omega)]; exact hh.T
  · rw [e _ _ (by unfold q_kp; omega)]; exact hh.law
  · rw [e _ _ (by unfold q_kp; omega)]; exact hh.img
  · rw [e _ _ (by unfold q_kp; omega)]; exact hh.iout
  · rw [e _ _ (by unfold q_kp; omega)]; exact hh.ion
  · rw [e _ _ (by unfold q_kp; omega)]; exact hh.ihour
  · rw [e _ _ (by unfold q_kp; omega)]; exact hh.islips
  · rw [e _ _ (by unfold q_kp; omega)]; exact hh.iN
  · rw [e _ _ (by unfold q_kp; omega)]; exact hh.ilaw
  · intro i h0; rw [e _ _ (by unfold q_kp; omega)]; exact hh.bears _ h0
  · intro i h0; rw [e _ _ (by unfold q_kp; omega)]; exact hh.times _ h0
  · intro l h0; rw [e _ _ (by unfold q_kp; omega)]; exact hh.kind _ h0
  · intro l h0; rw [e _ _ (by unfold q_kp; omega)]; exact hh.pow _ h0
  · intro l h0; rw [e _ _ (by unfold q_kp; omega)]; exact hh.room _ h0
  · intro l h0; rw [e _ _ (by unfold q_kp; omega)]; exact hh.sx _ h0
  · intro l h0; rw [e _ _ (by unfold q_kp; omega)]; exact hh.sy _ h0
  · intro l h0; rw [e _ _ (by unfold q_kp; omega)]; exact hh.more _ h0
  · intro h l h0 h1; rw [e _ _ (by unfold q_kp; omega)]; exact hh.fed _ _ h0 h1
  · intro k h0; rw [e _ _ (by unfold q_kp; omega)]; exact hh.ao _ h0
  · intro k h0; rw [e _ _ (by unfold q_kp; omega)]; exact hh.an _ h0
  · intro k h0; rw [e _ _ (by unfold q_kp; omega)]; exact hh.ah _ h0
  · intro k h0; rw [e _ _ (by unfold q_kp; omega)]; exact hh.ar _ h0
  · intro k h0; rw [e _ _ (by unfold q_kp; omega)]; exact hh.az _ h0
  · intro k h0; rw [e _ _ (by unfold q_kp; omega)]; exact hh.year _ h0
  · intro k l h0 h1; rw [e _ _ (by unfold q_kp; omega)]; exact hh.lab _ _ h0 h1
  · intro i h0; rw [e _ _ (by unfold q_kp; omega)]; exact hh.tape _ h0
  · intro t p i h0 h1 h2; rw [e _ _ (by unfold q_kp; omega)]; exact hh.cod _ _ _ h0 h1 h2
  · intro t p h0 h1; rw [e _ _ (by unfold q_kp; omega)]; exact hh.starts _ _ h0 h1
  · intro k h0; rw [e _ _ (by unfold q_kp; omega)]; exact hh.io _ h0
  · intro k h0; rw [e _ _ (by unfold q_kp; omega)]; exact hh.inn _ h0
  · intro k h0; rw [e _ _ (by unfold q_kp; omega)]; exact hh.ih _ h0
  · intro k h0; rw [e _ _ (by unfold q_kp; omega)]; exact hh.ir _ h0
  · intro k h0; rw [e _ _ (by unfold q_kp; omega)]; exact hh.iz _ h0
  · intro s h0; rw [e _ _ (by unfold q_kp; omega)]; exact hh.sort _ h0
  · intro s h0; rw [e _ _ (by unfold q_kp; omega)]; exact hh.size _ h0
  · intro s i h0 h1; rw [e _ _ (by unfold q_kp; omega)]; exact hh.cell _ _ h0 h1
theorem q_J.fr {A : q_A} {d d2 : Nat → Nat → Int32} {w w2 : Nat → Nat → Int64} (h : q_J A d w) (e : q_sc d d2) (e2 : ∀ i, i < 12 → w2 163 i = w 163 i) : q_J A d2 w2 := ⟨h.ok, h.cw.fr h.ok e, h.cr.fr h.ok e, fun i hi => (e2 i hi).trans (h.cl i hi)⟩
theorem q_J.fr1 {A : q_A} {d d2 : Nat → Nat → Int32} {w : Nat → Nat → Int64} (h : q_J A d w) (e : q_sc d d2) : q_J A d2 w := h.fr e (fun _ _ => rfl)
