/-! THE PURE HALF, QUICKER RULES (written by wip/gen/eng.py): values first, then what follows -/
def q_gi (L : q_L) (i : Nat) (K : Int32 → Prop) : Prop := ∃ x, L[i]? = some (some (.int x)) ∧ K x
def q_gj (L : q_L) (i : Nat) (K : Int64 → Prop) : Prop := ∃ x, L[i]? = some (some (.long x)) ∧ K x
def q_ga (L : q_L) (i : Nat) (K : Nat → Prop) : Prop := ∃ x, L[i]? = some (some (.ref x)) ∧ K x
theorem gi_0 {x : Int32} {t : q_L} {K : Int32 → Prop} : q_gi (some (.int x) :: t) 0 K ↔ K x := by simp [q_gi]
theorem gi_s {a : Option Value} {t : q_L} {i : Nat} {K : Int32 → Prop} : q_gi (a :: t) (i + 1) K ↔ q_gi t i K := by simp [q_gi]
theorem gj_0 {x : Int64} {t : q_L} {K : Int64 → Prop} : q_gj (some (.long x) :: t) 0 K ↔ K x := by simp [q_gj]
theorem gj_s {a : Option Value} {t : q_L} {i : Nat} {K : Int64 → Prop} : q_gj (a :: t) (i + 1) K ↔ q_gj t i K := by simp [q_gj]
theorem ga_0 {x : Nat} {t : q_L} {K : Nat → Prop} : q_ga (some (.ref x) :: t) 0 K ↔ K x := by simp [q_ga]
theorem ga_s {a : Option Value} {t : q_L} {i : Nat} {K : Nat → Prop} : q_ga (a :: t) (i + 1) K ↔ q_ga t i K := by simp [q_ga]
def q_sk (L : q_L) (i : Nat) (v : Value) (K : q_L → Prop) : Prop := K (q_st L i v)
def q_sk2 (L : q_L) (i : Nat) (v : Value) (K : q_L → Prop) : Prop := K (q_st2 L i v)
theorem sk_0 {a : Option Value} {t : q_L} {v : Value} {K : q_L → Prop} : q_sk (a :: t) 0 v K ↔ K (some v :: t) := by unfold q_sk; simp only [q_st]
theorem sk_i {x : Int32} {t : q_L} {i : Nat} {v : Value} {K : q_L → Prop} : q_sk (some (.int x) :: t) (i + 1) v K ↔ q_sk t i v (fun t' => K (some (.int x) :: t')) := by
  unfold q_sk
  cases t <;> cases i <;> simp only [q_st]
theorem sk_a {x : Nat} {t : q_L} {i : Nat} {v : Value} {K : q_L → Prop} : q_sk (some (.ref x) :: t) (i + 1) v K ↔ q_sk t i v (fun t' => K (some (.ref x) :: t')) := by
  unfold q_sk
  cases t <;> cases i <;> simp only [q_st]
theorem sk_n {t : q_L} {i : Nat} {v : Value} {K : q_L → Prop} : q_sk (none :: t) (i + 1) v K ↔ q_sk t i v (fun t' => K (none :: t')) := by
  unfold q_sk
  cases t <;> cases i <;> simp only [q_st]
theorem sk_j {x : Int64} {t : q_L} {i : Nat} {v : Value} {K : q_L → Prop} : q_sk (some (.long x) :: none :: t) (i + 2) v K ↔ q_sk t i v (fun t' => K (some (.long x) :: none :: t')) := by
  unfold q_sk
  cases t <;> cases i <;> simp only [q_st]
theorem sk2_0 {a b : Option Value} {t : q_L} {v : Value} {K : q_L → Prop} : q_sk2 (a :: b :: t) 0 v K ↔ K (some v :: none :: t) := by unfold q_sk2; simp only [q_st2]
theorem sk2_i {x : Int32} {a : Option Value} {t : q_L} {i : Nat} {v : Value} {K : q_L → Prop} : q_sk2 (some (.int x) :: a :: t) (i + 1) v K ↔ q_sk2 (a :: t) i v (fun t' => K (some (.int x) :: t')) := by
  unfold q_sk2
  cases t <;> cases i <;> simp only [q_st2]
theorem sk2_a {x : Nat} {a : Option Value} {t : q_L} {i : Nat} {v : Value} {K : q_L → Prop} : q_sk2 (some (.ref x) :: a :: t) (i + 1) v K ↔ q_sk2 (a :: t) i v (fun t' => K (some (.ref x) :: t')) := by
  unfold q_sk2
  cases t <;> cases i <;> simp only [q_st2]
theorem sk2_n {a : Option Value} {t : q_L} {i : Nat} {v : Value} {K : q_L → Prop} : q_sk2 (none :: a :: t) (i + 1) v K ↔ q_sk2 (a :: t) i v (fun t' => K (none :: t')) := by
  unfold q_sk2
  cases t <;> cases i <;> simp only [q_st2]
theorem sk2_j {x : Int64} {t : q_L} {i : Nat} {v : Value} {K : q_L → Prop} : q_sk2 (some (.long x) :: none :: t) (i + 2) v K ↔ q_sk2 t i v (fun t' => K (some (.long x) :: none :: t')) := by
  unfold q_sk2
  rcases t with _ | ⟨b, _ | ⟨c, t⟩⟩ <;> cases i <;> simp only [q_st2]
def q_on {α : Type} (e : Option α) (K : α → Prop) : Prop := ∃ u, e = some u ∧ K u
theorem px_of {α : Type} {e : Option α} {v : α} {K : α → Prop} (h : e = some v) : q_on e K ↔ K v := by
  subst h
  constructor
  · rintro ⟨u, e, k⟩; cases e; exact k
  · exact fun k => ⟨v, rfl, k⟩
theorem px_some {α : Type} {v : α} {K : α → Prop} : q_on (some v) K ↔ K v := px_of rfl
def q_vi (v : Value) (K : Int32 → Prop) : Prop := ∃ x, v = .int x ∧ K x
def q_vj (v : Value) (K : Int64 → Prop) : Prop := ∃ x, v = .long x ∧ K x
def q_va (v : Value) (K : Nat → Prop) : Prop := ∃ x, v = .ref x ∧ K x
theorem px_int {t : Int32} {K : Int32 → Prop} : q_vi (.int t) K ↔ K t := ⟨fun ⟨_, e, k⟩ => by cases e; exact k, fun k => ⟨t, rfl, k⟩⟩
theorem px_ref {t : Nat} {K : Nat → Prop} : q_va (.ref t) K ↔ K t := ⟨fun ⟨_, e, k⟩ => by cases e; exact k, fun k => ⟨t, rfl, k⟩⟩
theorem px_long {t : Int64} {K : Int64 → Prop} : q_vj (.long t) K ↔ K t := ⟨fun ⟨_, e, k⟩ => by cases e; exact k, fun k => ⟨t, rfl, k⟩⟩
/-! rules over locals and state taken apart -/
def uX (f : q_X) (L : q_L) (h : q_H) (Q : Value → q_L → q_H → Prop) : Prop := wX f (L, h) (fun v σ => Q v σ.1 σ.2)
def uA (f : List q_X) (L : q_L) (h : q_H) (Q : List Value → q_L → q_H → Prop) : Prop := wA f (L, h) (fun v σ => Q v σ.1 σ.2)
def uC (f : q_C) (L : q_L) (h : q_H) (Q : Bool → q_L → q_H → Prop) : Prop := wC f (L, h) (fun v σ => Q v σ.1 σ.2)
def uT (f : q_T) (L : q_L) (h : q_H) (N : q_L → q_H → Prop) (R : Option Value → q_H → Prop) : Prop := wT f (L, h) (fun σ => N σ.1 σ.2) R
def xB (c : q_C) (a b : Int32) : q_X := xIf c (xK (.int a)) (xK (.int b))
theorem xB_fold {c : q_C} {a b : Int32} : xIf c (xK (.int a)) (xK (.int b)) = xB c a b := rfl
section
variable {L : q_L} {h : q_H} {Q : Value → q_L → q_H → Prop} {QA : List Value → q_L → q_H → Prop} {QC : Bool → q_L → q_H → Prop} {QM : Option Value → q_H → Prop} {N : q_L → q_H → Prop} {R : Option Value → q_H → Prop}
theorem uM_meth {a n : Nat} {f : q_T} {vs : List Value} : wM (q_meth a n f) vs h QM ↔ (vs.length = a ∧ q_wid vs ≤ n) ∧ uT f (q_loc n vs) h (fun _ _ => False) (fun r h1 => (h.1.length ≤ h1.1.length ∧ q_sl h.1 ≤ q_sl h1.1) ∧ QM r h1) := wM_meth
theorem uX_K {v : Value} : uX (xK v) L h Q ↔ Q v L h := wX_K
theorem uX_Str {k : Nat} : uX (xStr k) L h Q ↔ Q (.ref (1000000 + k)) L h := wX_Str
theorem uX_1 {g : q_H → Value → Option Value} {f : q_X} : uX (x1 g f) L h Q ↔ uX f L h (fun v L1 h1 => q_on (g h1 v) (fun u => Q u L1 h1)) := wX_1
theorem uX_2 {g : q_H → Value → Value → Option Value} {f1 f2 : q_X} : uX (x2 g f1 f2) L h Q ↔ uX f1 L h (fun v L1 h1 => uX f2 L1 h1 (fun t L2 h2 => q_on (g h2 v t) (fun u => Q u L2 h2))) := wX_2
theorem uA_nil : uA [] L h QA ↔ QA [] L h := wA_nil
theorem uA_cons {f : q_X} {fs : List q_X} : uA (f :: fs) L h QA ↔ uX f L h (fun v L1 h1 => uA fs L1 h1 (fun vs L2 h2 => QA (v :: vs) L2 h2)) := wA_cons
theorem uX_M {m : q_M} {fs : List q_X} : uX (xM m fs) L h Q ↔ uA fs L h (fun vs L1 h1 => wM m vs h1 (fun r h2 => q_on r (fun v => Q v L1 h2))) := wX_M
theorem uC_1 {r : Int32 → Bool} {f : q_X} : uC (c1 r f) L h QC ↔ uX f L h (fun v L1 h1 => q_vi v (fun x => QC (r x) L1 h1)) := wC_1
theorem uC_2 {r : Int32 → Int32 → Bool} {f g : q_X} : uC (c2 r f g) L h QC ↔ uX f L h (fun v L1 h1 => q_vi v (fun x => uX g L1 h1 (fun u L2 h2 => q_vi u (fun y => QC (r x y) L2 h2)))) := wC_2
theorem uC_T : uC cT L h QC ↔ QC true L h := wC_T
theorem uT_Skip : uT sSkip L h N R ↔ N L h := wT_Skip
theorem uT_Seq {f g : q_T} : uT (sSeq f g) L h N R ↔ uT f L h (fun L1 h1 => uT g L1 h1 N R) R := wT_Seq
theorem uT_2 {g : q_H → Value → Value → Option q_H} {f1 f2 : q_X} : uT (s2 g f1 f2) L h N R ↔ uX f1 L h (fun v L1 h1 => uX f2 L1 h1 (fun u L2 h2 => q_on (g h2 v u) (fun h3 => N L2 h3))) := wT_2
theorem uT_3 {g : q_H → Value → Value → Value → Option q_H} {f1 f2 f3 : q_X} : uT (s3 g f1 f2 f3) L h N R ↔ uX f1 L h (fun v L1 h1 => uX f2 L1 h1 (fun u L2 h2 => uX f3 L2 h2 (fun t L3 h3 => q_on (g h3 v u t) (fun h4 => N L3 h4)))) := wT_3
theorem uT_2u {gt : q_H → Value → Option Value} {op : q_H → Value → Value → Option Value} {pt : q_H → Value → Value → Option q_H} {f g : q_X} : uT (s2u gt op pt f g) L h N R ↔ uX f L h (fun v L1 h1 => q_on (gt h1 v) (fun a => uX g L1 h1 (fun u L2 h2 => q_on (op h2 a u) (fun z => q_on (pt h2 v z) (fun h3 => N L2 h3))))) := wT_2u
theorem uT_3u {gt : q_H → Value → Value → Option Value} {op : q_H → Value → Value → Option Value} {pt : q_H → Value → Value → Value → Option q_H} {f1 f2 g : q_X} : uT (s3u gt op pt f1 f2 g) L h N R ↔ uX f1 L h (fun v L1 h1 => uX f2 L1 h1 (fun t L2 h2 => q_on (gt h2 v t) (fun a => uX g L2 h2 (fun u L3 h3 => q_on (op h3 a u) (fun z => q_on (pt h3 v t z) (fun h4 => N L3 h4)))))) := wT_3u
theorem uT_M {m : q_M} {fs : List q_X} : uT (sM m fs) L h N R ↔ uA fs L h (fun vs L1 h1 => wM m vs h1 (fun r h2 => r = none ∧ N L1 h2)) := wT_M
theorem uT_Mp {m : q_M} {fs : List q_X} : uT (sMp (q_pI m) fs) L h N R ↔ uA fs L h (fun vs L1 h1 => wM m vs h1 (fun r h2 => q_on r (fun v => q_vi v (fun _ => N L1 h2)))) := by
  unfold uT uA
  rw [wT_Mp]
  refine iff_of_eq (congrArg (wA fs (L, h)) (funext fun vs => funext fun σ1 => congrArg (wM m vs σ1.2) (funext fun r => funext fun h => propext ?_)))
  constructor
  · rintro ⟨x, rfl, q⟩; exact ⟨_, rfl, x, rfl, q⟩
  · rintro ⟨_, rfl, x, rfl, q⟩; exact ⟨x, rfl, q⟩
theorem uT_Ret0 : uT sRet0 L h N R ↔ R none h := wT_Ret0
theorem uT_Ret {f : q_X} : uT (sRet 0 f) L h N R ↔ uX f L h (fun v L1 h1 => q_vi v (fun x => R (some (.int x)) h1)) := wT_Ret
theorem uT_RetZ {f : q_X} : uT (sRet 1 f) L h N R ↔ uX f L h (fun v L1 h1 => q_vi v (fun x => (x = 0 ∨ x = 1) ∧ R (some (.int x)) h1)) := wT_RetZ
theorem uT_RetL {f : q_X} : uT (sRet 2 f) L h N R ↔ uX f L h (fun v L1 h1 => q_vj v (fun x => R (some (.long x)) h1)) := wT_RetL
theorem uT_RetR {f : q_X} : uT (sRet 3 f) L h N R ↔ uX f L h (fun v L1 h1 => q_va v (fun x => R (some (.ref x)) h1)) := wT_RetR
theorem uT_Sw {f : q_X} {lo : Int} {as : List q_T} {dd : q_T} : uT (sSw f lo as dd) L h N R ↔ uX f L h (fun v L1 h1 => q_vi v (fun x => uT (q_pick lo as dd x) L1 h1 N R)) := wT_Sw2
theorem uX_Li {i : Nat} : uX (xLi i) L h Q ↔ q_gi L i (fun x => Q (.int x) L h) := wX_Li
theorem uX_Lj {i : Nat} : uX (xLj i) L h Q ↔ q_gj L i (fun x => Q (.long x) L h) := wX_Lj
theorem uX_La {i : Nat} : uX (xLa i) L h Q ↔ q_ga L i (fun x => Q (.ref x) L h) := wX_La
theorem v_ite {p : Bool} {A B : Prop} : ((p = true → A) ∧ (p = false → B)) ↔ (if p = true then A else B) := by cases p <;> simp
theorem uX_If {c : q_C} {f g : q_X} : uX (xIf c f g) L h Q ↔ uC c L h (fun b L1 h1 => if b = true then uX f L1 h1 Q else uX g L1 h1 Q) := by
  unfold uX uC
  rw [wX_If]
  exact iff_of_eq (congrArg (wC c (L, h)) (funext fun b => funext fun σ1 => propext v_ite))
theorem uX_B {c : q_C} {a b : Int32} : uX (xB c a b) L h Q ↔ uC c L h (fun t L1 h1 => if t = true then Q (.int a) L1 h1 else Q (.int b) L1 h1) := by
  unfold xB
  rw [uX_If]
  simp only [uX_K]
theorem uC_And {a b : q_C} : uC (cAnd a b) L h QC ↔ uC a L h (fun x L1 h1 => if x = true then uC b L1 h1 QC else QC false L1 h1) := by
  unfold uC
  rw [wC_And]
  exact iff_of_eq (congrArg (wC a (L, h)) (funext fun b => funext fun σ1 => propext v_ite))
theorem uC_Or {a b : q_C} : uC (cOr a b) L h QC ↔ uC a L h (fun x L1 h1 => if x = true then QC true L1 h1 else uC b L1 h1 QC) := by
  unfold uC
  rw [wC_Or]
  exact iff_of_eq (congrArg (wC a (L, h)) (funext fun b => funext fun σ1 => propext v_ite))
theorem uT_If {c : q_C} {f g : q_T} : uT (sIf c f g) L h N R ↔ uC c L h (fun b L1 h1 => if b = true then uT f L1 h1 N R else uT g L1 h1 N R) := by
  unfold uT uC
  rw [wT_If]
  exact iff_of_eq (congrArg (wC c (L, h)) (funext fun b => funext fun σ1 => propext v_ite))
theorem uT_ite {p : Prop} [Decidable p] {a b : q_T} : uT (if p then a else b) L h N R ↔ if p then uT a L h N R else uT b L h N R := by by_cases h : p <;> simp [h]
theorem uT_Sti {i : Nat} {f : q_X} : uT (sSti i f) L h N R ↔ uX f L h (fun v L1 h1 => q_vi v (fun x => q_sk L1 i (.int x) (fun L2 => N L2 h1))) := wT_Sti
theorem uT_Sta {i : Nat} {f : q_X} : uT (sSta i f) L h N R ↔ uX f L h (fun v L1 h1 => q_va v (fun x => q_sk L1 i (.ref x) (fun L2 => N L2 h1))) := wT_Sta
theorem uT_Stl {i : Nat} {f : q_X} : uT (sStl i f) L h N R ↔ uX f L h (fun v L1 h1 => q_vj v (fun x => q_sk2 L1 i (.long x) (fun L2 => N L2 h1))) := wT_Stl
theorem uT_Inc {i n : Nat} : uT (sInc i (nI n)) L h N R ↔ q_gi L i (fun x => q_on (o_iadd h (.int x) (.int (nI n))) (fun u => q_sk L i u (fun L2 => N L2 h))) := by
  unfold uT
  rw [wT_Inc]
  exact iff_of_eq (congrArg (q_gi L i) (funext fun x => propext (px_of (K := fun u => q_sk L i u (fun L2 => N L2 h)) (rfl : o_iadd h (.int x) (.int (nI n)) = some (.int (x + nI n)))).symm))
theorem uT_Dec {i n : Nat} : uT (sInc i (-nI n)) L h N R ↔ q_gi L i (fun x => q_on (o_isub h (.int x) (.int (nI n))) (fun u => q_sk L i u (fun L2 => N L2 h))) := by
  unfold uT
  rw [wT_Inc]
  refine iff_of_eq (congrArg (q_gi L i) (funext fun x => propext (px_of (K := fun u => q_sk L i u (fun L2 => N L2 h)) (?_ : o_isub h (.int x) (.int (nI n)) = some (.int (x + -nI n)))).symm))
  rw [← Int32.sub_eq_add_neg]
  rfl
/-- a loop of n rounds whose locals are known, the state being the same -/
theorem uT_fe {c : q_C} {f : q_T} (st : Nat → q_L) (n : Nat) (hn : n < 5000) (e0 : L = st 0) (hs : ∀ i, i < n → uC c (st i) h (fun b L1 h1 => b = true ∧ uT f L1 h1 (fun L2 h2 => L2 = st (i + 1) ∧ h2 = h) R)) (he : uC c (st n) h (fun b L1 h1 => b = false ∧ N L1 h1)) : uT (sWh c f) L h N R := by
  refine wT_for (fun i σ => σ = (st i, h)) n hn (by rw [e0]) ?_ ?_
  · rintro i σ hi rfl
    refine (hs i hi).mono ?_
    rintro b σ1 ⟨h1, h2⟩
    refine ⟨h1, h2.mono ?_ (fun _ _ z => z)⟩
    rintro σ2 ⟨h3, h4⟩
    exact Prod.ext h3 h4
  · rintro σ rfl
    exact he
/-- a loop of n rounds by what holds after i of them -/
theorem uT_for {c : q_C} {f : q_T} (I : Nat → q_L → q_H → Prop) (n : Nat) (hn : n < 5000) (e0 : I 0 L h) (hs : ∀ i L h, i < n → I i L h → uC c L h (fun b L1 h1 => b = true ∧ uT f L1 h1 (I (i + 1)) R)) (he : ∀ L h, I n L h → uC c L h (fun b L1 h1 => b = false ∧ N L1 h1)) : uT (sWh c f) L h N R :=
  wT_for (fun i σ => I i σ.1 σ.2) n hn e0 (fun i σ hi hI => hs i σ.1 σ.2 hi hI) (fun σ hI => he σ.1 σ.2 hI)
/-- a loop by a measure -/
theorem uT_wh {c : q_C} {f : q_T} (I : q_L → q_H → Prop) (μ : q_L → q_H → Nat) (hμ : μ L h < 5000) (h0 : I L h) (hs : ∀ L h, I L h → uC c L h (fun b L1 h1 => if b = true then uT f L1 h1 (fun L2 h2 => I L2 h2 ∧ μ L2 h2 < μ L h) R else N L1 h1)) : uT (sWh c f) L h N R := by
  refine wT_wh (fun σ => I σ.1 σ.2) (fun σ => μ σ.1 σ.2) hμ h0 (fun σ hI => (hs σ.1 σ.2 hI).mono ?_)
  intro b σ1 k
  cases b with
  | true => exact ⟨fun _ => k, fun h => by cases h⟩
  | false => exact ⟨fun h => (by cases h), fun _ => k⟩
theorem uT.mono {f : q_T} {N2 : q_L → q_H → Prop} {R2 : Option Value → q_H → Prop} (z : uT f L h N R) (k : ∀ L h, N L h → N2 L h) (k2 : ∀ v h, R v h → R2 v h) : uT f L h N2 R2 := wT.mono z (fun σ => k σ.1 σ.2) k2
end
section
variable {h : q_H} {K : Value → Prop} {a b n : Nat} {x y : Int32} {u v : Int64}
theorem px_iadd : q_on (o_iadd h (.int (nI a)) (.int (nI b))) K ↔ K (.int (nI (a + b))) := by rw [← q_addI]; exact px_of rfl
theorem px_imul : q_on (o_imul h (.int (nI a)) (.int (nI b))) K ↔ K (.int (nI (a * b))) := by rw [← q_mulI]; exact px_of rfl
theorem px_isub (hb : b ≤ a) : q_on (o_isub h (.int (nI a)) (.int (nI b))) K ↔ K (.int (nI (a - b))) := by rw [← n_sub hb]; exact px_of rfl
theorem n_div (ha : a < 2 ^ 31) (hb : b < 2 ^ 31) : nI a / nI b = nI (a / b) := by
  have hd : a / b ≤ a := Nat.div_le_self a b
  apply Int32.toInt_inj.mp
  rw [Int32.toInt_div, nI_toInt ha, nI_toInt hb, nI_toInt (by omega), ← Int.ofNat_tdiv]
  generalize a / b = q at hd ⊢
  apply Int.bmod_eq_of_le <;> omega
theorem px_idiv (h0 : 0 < b) (ha : a < 2 ^ 31) (hb : b < 2 ^ 31) : q_on (o_idiv h (.int (nI a)) (.int (nI b))) K ↔ K (.int (nI (a / b))) := by
  refine px_of ?_
  unfold o_idiv
  have e : ¬ nI b = 0 := fun e => by have := (q_eq (b := 0) hb (by omega)).mp e; omega
  simp only [e, if_false, n_div ha hb]
theorem px_irem (h0 : 0 < b) (ha : a < 2 ^ 31) (hb : b < 2 ^ 31) : q_on (o_irem h (.int (nI a)) (.int (nI b))) K ↔ K (.int (nI (a % b))) := by
  refine px_of ?_
  unfold o_irem
  have e : ¬ nI b = 0 := fun e => by have := (q_eq (b := 0) hb (by omega)).mp e; omega
  have e2 : a / b * b ≤ a := Nat.div_mul_le_self a b
  have e3 : a - a / b * b = a % b := by have := Nat.div_add_mod' a b; omega
  simp only [e, if_false, n_div ha hb, q_mulI, n_sub e2, e3]
theorem px_iand : q_on (o_iand h (.int x) (.int y)) K ↔ K (.int (x &&& y)) := px_of rfl
theorem px_ior : q_on (o_ior h (.int x) (.int y)) K ↔ K (.int (x ||| y)) := px_of rfl
theorem px_ixor : q_on (o_ixor h (.int x) (.int y)) K ↔ K (.int (x ^^^ y)) := px_of rfl
theorem px_ishl (hn : n ≤ 30) : q_on (o_ishl h (.int (nI 1)) (.int (nI n))) K ↔ K (.int (nI (2 ^ n))) := by rw [← n_shl1 hn]; exact px_of rfl
theorem px_ishr : q_on (o_ishr h (.int x) (.int y)) K ↔ K (.int (x >>> (y &&& 31))) := px_of rfl
theorem px_iushr : q_on (o_iushr h (.int x) (.int y)) K ↔ K (.int ((x.toUInt32 >>> (y.toUInt32 &&& Int32.toUInt32 31)).toInt32)) := px_of rfl
theorem px_i2l : q_on (o_i2l h (.int x)) K ↔ K (.long x.toInt64) := px_of rfl
theorem px_ladd : q_on (o_ladd h (.long u) (.long v)) K ↔ K (.long (u + v)) := px_of rfl
theorem px_lmul : q_on (o_lmul h (.long u) (.long v)) K ↔ K (.long (u * v)) := px_of rfl
theorem px_lor : q_on (o_lor h (.long u) (.long v)) K ↔ K (.long (u ||| v)) := px_of rfl
theorem px_land : q_on (o_land h (.long u) (.long v)) K ↔ K (.long (u &&& v)) := px_of rfl
end
theorem px_g_x_0 {d : Nat → Nat → Int32} {w : Nat → Nat → Int64} {K : Value → Prop} : q_on (o_get 10 0 (S0, d, w) (.ref (0))) K ↔ K (.ref (1)) := px_of (g_x_0 )
theorem px_g_x_1 {d : Nat → Nat → Int32} {w : Nat → Nat → Int64} {K : Value → Prop} : q_on (o_get 10 1 (S0, d, w) (.ref (0))) K ↔ K (.ref (2)) := px_of (g_x_1 )
theorem px_g_x_2 {d : Nat → Nat → Int32} {w : Nat → Nat → Int64} {K : Value → Prop} : q_on (o_get 10 2 (S0, d, w) (.ref (0))) K ↔ K (.ref (3)) := px_of (g_x_2 )
theorem px_g_x_3 {d : Nat → Nat → Int32} {w : Nat → Nat → Int64} {K : Value → Prop} : q_on (o_get 10 3 (S0, d, w) (.ref (0))) K ↔ K (.ref (4)) := px_of (g_x_3 )
theorem px_g_x_4 {d : Nat → Nat → Int32} {w : Nat → Nat → Int64} {K : Value → Prop} : q_on (o_get 10 4 (S0, d, w) (.ref (0))) K ↔ K (.ref (5)) := px_of (g_x_4 )
theorem px_g_x_5 {d : Nat → Nat → Int32} {w : Nat → Nat → Int64} {K : Value → Prop} : q_on (o_get 10 5 (S0, d, w) (.ref (0))) K ↔ K (.ref (6)) := px_of (g_x_5 )
theorem px_g_x_6 {d : Nat → Nat → Int32} {w : Nat → Nat → Int64} {K : Value → Prop} : q_on (o_get 10 6 (S0, d, w) (.ref (0))) K ↔ K (.ref (7)) := px_of (g_x_6 )
theorem px_g_x_7 {d : Nat → Nat → Int32} {w : Nat → Nat → Int64} {K : Value → Prop} : q_on (o_get 10 7 (S0, d, w) (.ref (0))) K ↔ K (.ref (20)) := px_of (g_x_7 )
theorem px_g_x_8 {d : Nat → Nat → Int32} {w : Nat → Nat → Int64} {K : Value → Prop} : q_on (o_get 10 8 (S0, d, w) (.ref (0))) K ↔ K (.ref (33)) := px_of (g_x_8 )
theorem px_g_x_9 {d : Nat → Nat → Int32} {w : Nat → Nat → Int64} {K : Value → Prop} : q_on (o_get 10 9 (S0, d, w) (.ref (0))) K ↔ K (.ref (38)) := px_of (g_x_9 )
theorem px_g_x_10 {d : Nat → Nat → Int32} {w : Nat → Nat → Int64} {K : Value → Prop} : q_on (o_get 10 10 (S0, d, w) (.ref (0))) K ↔ K (.ref (41)) := px_of (g_x_10 )
theorem px_g_x_11 {d : Nat → Nat → Int32} {w : Nat → Nat → Int64} {K : Value → Prop} : q_on (o_get 10 11 (S0, d, w) (.ref (0))) K ↔ K (.ref (43)) := px_of (g_x_11 )
theorem px_g_x_12 {d : Nat → Nat → Int32} {w : Nat → Nat → Int64} {K : Value → Prop} : q_on (o_get 10 12 (S0, d, w) (.ref (0))) K ↔ K (.ref (44)) := px_of (g_x_12 )
theorem px_p_x_13 {d : Nat → Nat → Int32} {w : Nat → Nat → Int64} {v : Int32} {K : q_H → Prop} : q_on (e_put 10 13 (S0, d, w) (.ref (0)) (.int v)) K ↔ K (S0, q_d d (0) 13 v, w) := px_of (p_x_13 )
theorem px_p_x_14 {d : Nat → Nat → Int32} {w : Nat → Nat → Int64} {v : Int32} {K : q_H → Prop} : q_on (e_put 10 14 (S0, d, w) (.ref (0)) (.int v)) K ↔ K (S0, q_d d (0) 14 v, w) := px_of (p_x_14 )
theorem px_p_x_15 {d : Nat → Nat → Int32} {w : Nat → Nat → Int64} {v : Int32} {K : q_H → Prop} : q_on (e_put 10 15 (S0, d, w) (.ref (0)) (.int v)) K ↔ K (S0, q_d d (0) 15 v, w) := px_of (p_x_15 )
theorem px_p_x_16 {d : Nat → Nat → Int32} {w : Nat → Nat → Int64} {v : Int32} {K : q_H → Prop} : q_on (e_put 10 16 (S0, d, w) (.ref (0)) (.int v)) K ↔ K (S0, q_d d (0) 16 v, w) := px_of (p_x_16 )
theorem px_p_x_17 {d : Nat → Nat → Int32} {w : Nat → Nat → Int64} {v : Int32} {K : q_H → Prop} : q_on (e_put 10 17 (S0, d, w) (.ref (0)) (.int v)) K ↔ K (S0, q_d d (0) 17 v, w) := px_of (p_x_17 )
theorem px_p_x_18 {d : Nat → Nat → Int32} {w : Nat → Nat → Int64} {K : q_H → Prop} : q_on (e_putZ 10 18 (S0, d, w) (.ref (0)) (.int 1)) K ↔ K (S0, q_d d (0) 18 1, w) := px_of (p_x_18 )
theorem px_p_m_0 {d : Nat → Nat → Int32} {w : Nat → Nat → Int64} {v : Int32} {K : q_H → Prop} : q_on (e_put 11 0 (S0, d, w) (.ref (135)) (.int v)) K ↔ K (S0, q_d d (135) 0 v, w) := px_of (p_m_0 )
theorem px_p_m_1 {d : Nat → Nat → Int32} {w : Nat → Nat → Int64} {v : Int32} {K : q_H → Prop} : q_on (e_put 11 1 (S0, d, w) (.ref (135)) (.int v)) K ↔ K (S0, q_d d (135) 1 v, w) := px_of (p_m_1 )
theorem px_p_m_2 {d : Nat → Nat → Int32} {w : Nat → Nat → Int64} {v : Int32} {K : q_H → Prop} : q_on (e_put 11 2 (S0, d, w) (.ref (135)) (.int v)) K ↔ K (S0, q_d d (135) 2 v, w) := px_of (p_m_2 )
theorem px_p_m_3 {d : Nat → Nat → Int32} {w : Nat → Nat → Int64} {v : Int32} {K : q_H → Prop} : q_on (e_put 11 3 (S0, d, w) (.ref (135)) (.int v)) K ↔ K (S0, q_d d (135) 3 v, w) := px_of (p_m_3 )
theorem px_p_m_4 {d : Nat → Nat → Int32} {w : Nat → Nat → Int64} {v : Int32} {K : q_H → Prop} : q_on (e_put 11 4 (S0, d, w) (.ref (135)) (.int v)) K ↔ K (S0, q_d d (135) 4 v, w) := px_of (p_m_4 )
theorem px_g_m_5 {d : Nat → Nat → Int32} {w : Nat → Nat → Int64} {K : Value → Prop} : q_on (o_get 11 5 (S0, d, w) (.ref (135))) K ↔ K (.ref (136)) := px_of (g_m_5 )
theorem px_g_m_6 {d : Nat → Nat → Int32} {w : Nat → Nat → Int64} {K : Value → Prop} : q_on (o_get 11 6 (S0, d, w) (.ref (135))) K ↔ K (.ref (137)) := px_of (g_m_6 )
theorem px_p_m_7 {d : Nat → Nat → Int32} {w : Nat → Nat → Int64} {v : Int32} {K : q_H → Prop} : q_on (e_put 11 7 (S0, d, w) (.ref (135)) (.int v)) K ↔ K (S0, q_d d (135) 7 v, w) := px_of (p_m_7 )
theorem px_g_m_8 {d : Nat → Nat → Int32} {w : Nat → Nat → Int64} {K : Value → Prop} : q_on (o_get 11 8 (S0, d, w) (.ref (135))) K ↔ K (.ref (138)) := px_of (g_m_8 )
theorem px_g_m_9 {d : Nat → Nat → Int32} {w : Nat → Nat → Int64} {K : Value → Prop} : q_on (o_get 11 9 (S0, d, w) (.ref (135))) K ↔ K (.ref (139)) := px_of (g_m_9 )
theorem px_g_m_10 {d : Nat → Nat → Int32} {w : Nat → Nat → Int64} {K : Value → Prop} : q_on (o_get 11 10 (S0, d, w) (.ref (135))) K ↔ K (.ref (140)) := px_of (g_m_10 )
theorem px_g_m_11 {d : Nat → Nat → Int32} {w : Nat → Nat → Int64} {K : Value → Prop} : q_on (o_get 11 11 (S0, d, w) (.ref (135))) K ↔ K (.ref (141)) := px_of (g_m_11 )
theorem px_g_m_12 {d : Nat → Nat → Int32} {w : Nat → Nat → Int64} {K : Value → Prop} : q_on (o_get 11 12 (S0, d, w) (.ref (135))) K ↔ K (.ref (142)) := px_of (g_m_12 )
theorem px_g_m_13 {d : Nat → Nat → Int32} {w : Nat → Nat → Int64} {K : Value → Prop} : q_on (o_get 11 13 (S0, d, w) (.ref (135))) K ↔ K (.ref (143)) := px_of (g_m_13 )
theorem px_p_m_14 {d : Nat → Nat → Int32} {w : Nat → Nat → Int64} {v : Int32} {K : q_H → Prop} : q_on (e_put 11 14 (S0, d, w) (.ref (135)) (.int v)) K ↔ K (S0, q_d d (135) 14 v, w) := px_of (p_m_14 )
theorem px_g_m_15 {d : Nat → Nat → Int32} {w : Nat → Nat → Int64} {K : Value → Prop} : q_on (o_get 11 15 (S0, d, w) (.ref (135))) K ↔ K (.ref (144)) := px_of (g_m_15 )
theorem px_p_m_16 {d : Nat → Nat → Int32} {w : Nat → Nat → Int64} {v : Int32} {K : q_H → Prop} : q_on (e_put 11 16 (S0, d, w) (.ref (135)) (.int v)) K ↔ K (S0, q_d d (135) 16 v, w) := px_of (p_m_16 )
theorem px_g_m_17 {d : Nat → Nat → Int32} {w : Nat → Nat → Int64} {K : Value → Prop} : q_on (o_get 11 17 (S0, d, w) (.ref (135))) K ↔ K (.ref (145)) := px_of (g_m_17 )
theorem px_g_m_18 {d : Nat → Nat → Int32} {w : Nat → Nat → Int64} {K : Value → Prop} : q_on (o_get 11 18 (S0, d, w) (.ref (135))) K ↔ K (.ref (146)) := px_of (g_m_18 )
theorem px_g_m_19 {d : Nat → Nat → Int32} {w : Nat → Nat → Int64} {K : Value → Prop} : q_on (o_get 11 19 (S0, d, w) (.ref (135))) K ↔ K (.ref (147)) := px_of (g_m_19 )
theorem px_g_m_20 {d : Nat → Nat → Int32} {w : Nat → Nat → Int64} {K : Value → Prop} : q_on (o_get 11 20 (S0, d, w) (.ref (135))) K ↔ K (.ref (148)) := px_of (g_m_20 )
theorem px_g_m_21 {d : Nat → Nat → Int32} {w : Nat → Nat → Int64} {K : Value → Prop} : q_on (o_get 11 21 (S0, d, w) (.ref (135))) K ↔ K (.ref (149)) := px_of (g_m_21 )
theorem px_p_m_22 {d : Nat → Nat → Int32} {w : Nat → Nat → Int64} {v : Int32} {K : q_H → Prop} : q_on (e_put 11 22 (S0, d, w) (.ref (135)) (.int v)) K ↔ K (S0, q_d d (135) 22 v, w) := px_of (p_m_22 )
theorem px_g_m_23 {d : Nat → Nat → Int32} {w : Nat → Nat → Int64} {K : Value → Prop} : q_on (o_get 11 23 (S0, d, w) (.ref (135))) K ↔ K (.ref (150)) := px_of (g_m_23 )
theorem px_g_m_24 {d : Nat → Nat → Int32} {w : Nat → Nat → Int64} {K : Value → Prop} : q_on (o_get 11 24 (S0, d, w) (.ref (135))) K ↔ K (.ref (151)) := px_of (g_m_24 )
theorem px_g_m_25 {d : Nat → Nat → Int32} {w : Nat → Nat → Int64} {K : Value → Prop} : q_on (o_get 11 25 (S0, d, w) (.ref (135))) K ↔ K (.ref (152)) := px_of (g_m_25 )
theorem px_p_m_26 {d : Nat → Nat → Int32} {w : Nat → Nat → Int64} {v : Int32} {K : q_H → Prop} : q_on (e_put 11 26 (S0, d, w) (.ref (135)) (.int v)) K ↔ K (S0, q_d d (135) 26 v, w) := px_of (p_m_26 )
theorem px_g_m_27 {d : Nat → Nat → Int32} {w : Nat → Nat → Int64} {K : Value → Prop} : q_on (o_get 11 27 (S0, d, w) (.ref (135))) K ↔ K (.ref (153)) := px_of (g_m_27 )
theorem px_g_m_28 {d : Nat → Nat → Int32} {w : Nat → Nat → Int64} {K : Value → Prop} : q_on (o_get 11 28 (S0, d, w) (.ref (135))) K ↔ K (.ref (154)) := px_of (g_m_28 )
theorem px_p_m_29 {d : Nat → Nat → Int32} {w : Nat → Nat → Int64} {v : Int32} {K : q_H → Prop} : q_on (e_put 11 29 (S0, d, w) (.ref (135)) (.int v)) K ↔ K (S0, q_d d (135) 29 v, w) := px_of (p_m_29 )
theorem px_p_m_30 {d : Nat → Nat → Int32} {w : Nat → Nat → Int64} {v : Int32} {K : q_H → Prop} : q_on (e_put 11 30 (S0, d, w) (.ref (135)) (.int v)) K ↔ K (S0, q_d d (135) 30 v, w) := px_of (p_m_30 )
theorem px_p_m_31 {d : Nat → Nat → Int32} {w : Nat → Nat → Int64} {K : q_H → Prop} : q_on (e_putZ 11 31 (S0, d, w) (.ref (135)) (.int 1)) K ↔ K (S0, q_d d (135) 31 1, w) := px_of (p_m_31 )
theorem px_p_m_32 {d : Nat → Nat → Int32} {w : Nat → Nat → Int64} {v : Int32} {K : q_H → Prop} : q_on (e_put 11 32 (S0, d, w) (.ref (135)) (.int v)) K ↔ K (S0, q_d d (135) 32 v, w) := px_of (p_m_32 )
theorem px_p_m_33 {d : Nat → Nat → Int32} {w : Nat → Nat → Int64} {v : Int32} {K : q_H → Prop} : q_on (e_put 11 33 (S0, d, w) (.ref (135)) (.int v)) K ↔ K (S0, q_d d (135) 33 v, w) := px_of (p_m_33 )
theorem px_p_m_34 {d : Nat → Nat → Int32} {w : Nat → Nat → Int64} {v : Int32} {K : q_H → Prop} : q_on (e_put 11 34 (S0, d, w) (.ref (135)) (.int v)) K ↔ K (S0, q_d d (135) 34 v, w) := px_of (p_m_34 )
theorem px_p_m_35 {d : Nat → Nat → Int32} {w : Nat → Nat → Int64} {v : Int32} {K : q_H → Prop} : q_on (e_put 11 35 (S0, d, w) (.ref (135)) (.int v)) K ↔ K (S0, q_d d (135) 35 v, w) := px_of (p_m_35 )
theorem px_p_m_36 {d : Nat → Nat → Int32} {w : Nat → Nat → Int64} {v : Int32} {K : q_H → Prop} : q_on (e_put 11 36 (S0, d, w) (.ref (135)) (.int v)) K ↔ K (S0, q_d d (135) 36 v, w) := px_of (p_m_36 )
theorem px_p_m_37 {d : Nat → Nat → Int32} {w : Nat → Nat → Int64} {v : Int32} {K : q_H → Prop} : q_on (e_put 11 37 (S0, d, w) (.ref (135)) (.int v)) K ↔ K (S0, q_d d (135) 37 v, w) := px_of (p_m_37 )
theorem px_g_m_38 {d : Nat → Nat → Int32} {w : Nat → Nat → Int64} {K : Value → Prop} : q_on (o_get 11 38 (S0, d, w) (.ref (135))) K ↔ K (.ref (155)) := px_of (g_m_38 )
theorem px_g_m_39 {d : Nat → Nat → Int32} {w : Nat → Nat → Int64} {K : Value → Prop} : q_on (o_get 11 39 (S0, d, w) (.ref (135))) K ↔ K (.ref (156)) := px_of (g_m_39 )
theorem px_g_m_40 {d : Nat → Nat → Int32} {w : Nat → Nat → Int64} {K : Value → Prop} : q_on (o_get 11 40 (S0, d, w) (.ref (135))) K ↔ K (.ref (157)) := px_of (g_m_40 )
theorem px_g_m_41 {d : Nat → Nat → Int32} {w : Nat → Nat → Int64} {K : Value → Prop} : q_on (o_get 11 41 (S0, d, w) (.ref (135))) K ↔ K (.ref (158)) := px_of (g_m_41 )
theorem px_g_m_42 {d : Nat → Nat → Int32} {w : Nat → Nat → Int64} {K : Value → Prop} : q_on (o_get 11 42 (S0, d, w) (.ref (135))) K ↔ K (.ref (159)) := px_of (g_m_42 )
theorem px_g_m_43 {d : Nat → Nat → Int32} {w : Nat → Nat → Int64} {K : Value → Prop} : q_on (o_get 11 43 (S0, d, w) (.ref (135))) K ↔ K (.ref (160)) := px_of (g_m_43 )
theorem px_g_m_44 {d : Nat → Nat → Int32} {w : Nat → Nat → Int64} {K : Value → Prop} : q_on (o_get 11 44 (S0, d, w) (.ref (135))) K ↔ K (.ref (161)) := px_of (g_m_44 )
theorem px_g_m_45 {d : Nat → Nat → Int32} {w : Nat → Nat → Int64} {K : Value → Prop} : q_on (o_get 11 45 (S0, d, w) (.ref (135))) K ↔ K (.ref (162)) := px_of (g_m_45 )
theorem px_p_m_46 {d : Nat → Nat → Int32} {w : Nat → Nat → Int64} {v : Int32} {K : q_H → Prop} : q_on (e_put 11 46 (S0, d, w) (.ref (135)) (.int v)) K ↔ K (S0, q_d d (135) 46 v, w) := px_of (p_m_46 )
theorem px_p_m_47 {d : Nat → Nat → Int32} {w : Nat → Nat → Int64} {v : Int32} {K : q_H → Prop} : q_on (e_put 11 47 (S0, d, w) (.ref (135)) (.int v)) K ↔ K (S0, q_d d (135) 47 v, w) := px_of (p_m_47 )
theorem px_p_m_48 {d : Nat → Nat → Int32} {w : Nat → Nat → Int64} {v : Int32} {K : q_H → Prop} : q_on (e_put 11 48 (S0, d, w) (.ref (135)) (.int v)) K ↔ K (S0, q_d d (135) 48 v, w) := px_of (p_m_48 )
theorem px_p_m_49 {d : Nat → Nat → Int32} {w : Nat → Nat → Int64} {v : Int32} {K : q_H → Prop} : q_on (e_put 11 49 (S0, d, w) (.ref (135)) (.int v)) K ↔ K (S0, q_d d (135) 49 v, w) := px_of (p_m_49 )
theorem px_g_m_50 {d : Nat → Nat → Int32} {w : Nat → Nat → Int64} {K : Value → Prop} : q_on (o_get 11 50 (S0, d, w) (.ref (135))) K ↔ K (.ref (163)) := px_of (g_m_50 )
theorem px_g_m_51 {d : Nat → Nat → Int32} {w : Nat → Nat → Int64} {K : Value → Prop} : q_on (o_get 11 51 (S0, d, w) (.ref (135))) K ↔ K (.ref (164)) := px_of (g_m_51 )
theorem px_p_m_52 {d : Nat → Nat → Int32} {w : Nat → Nat → Int64} {v : Int32} {K : q_H → Prop} : q_on (e_put 11 52 (S0, d, w) (.ref (135)) (.int v)) K ↔ K (S0, q_d d (135) 52 v, w) := px_of (p_m_52 )
theorem px_p_m_53 {d : Nat → Nat → Int32} {w : Nat → Nat → Int64} {v : Int32} {K : q_H → Prop} : q_on (e_put 11 53 (S0, d, w) (.ref (135)) (.int v)) K ↔ K (S0, q_d d (135) 53 v, w) := px_of (p_m_53 )
theorem px_p_m_54 {d : Nat → Nat → Int32} {w : Nat → Nat → Int64} {v : Int32} {K : q_H → Prop} : q_on (e_put 11 54 (S0, d, w) (.ref (135)) (.int v)) K ↔ K (S0, q_d d (135) 54 v, w) := px_of (p_m_54 )
theorem px_g_m_55 {d : Nat → Nat → Int32} {w : Nat → Nat → Int64} {K : Value → Prop} : q_on (o_get 11 55 (S0, d, w) (.ref (135))) K ↔ K (.ref (165)) := px_of (g_m_55 )
theorem px_g_m_56 {d : Nat → Nat → Int32} {w : Nat → Nat → Int64} {K : Value → Prop} : q_on (o_get 11 56 (S0, d, w) (.ref (135))) K ↔ K (.ref (166)) := px_of (g_m_56 )
theorem px_g_m_57 {d : Nat → Nat → Int32} {w : Nat → Nat → Int64} {K : Value → Prop} : q_on (o_get 11 57 (S0, d, w) (.ref (135))) K ↔ K (.ref (167)) := px_of (g_m_57 )
theorem px_p_m_58 {d : Nat → Nat → Int32} {w : Nat → Nat → Int64} {v : Int32} {K : q_H → Prop} : q_on (e_put 11 58 (S0, d, w) (.ref (135)) (.int v)) K ↔ K (S0, q_d d (135) 58 v, w) := px_of (p_m_58 )
theorem px_g_m_59 {d : Nat → Nat → Int32} {w : Nat → Nat → Int64} {K : Value → Prop} : q_on (o_get 11 59 (S0, d, w) (.ref (135))) K ↔ K (.ref (168)) := px_of (g_m_59 )
theorem px_g_m_60 {d : Nat → Nat → Int32} {w : Nat → Nat → Int64} {K : Value → Prop} : q_on (o_get 11 60 (S0, d, w) (.ref (135))) K ↔ K (.ref (169)) := px_of (g_m_60 )
theorem px_g_m_61 {d : Nat → Nat → Int32} {w : Nat → Nat → Int64} {K : Value → Prop} : q_on (o_get 11 61 (S0, d, w) (.ref (135))) K ↔ K (.ref (170)) := px_of (g_m_61 )
theorem px_g_now_0 {d : Nat → Nat → Int32} {w : Nat → Nat → Int64} {K : Value → Prop} : q_on (o_get 4 0 (S0, d, w) (.ref (7))) K ↔ K (.ref (8)) := px_of (g_now_0 )
theorem px_g_now_1 {d : Nat → Nat → Int32} {w : Nat → Nat → Int64} {K : Value → Prop} : q_on (o_get 4 1 (S0, d, w) (.ref (7))) K ↔ K (.ref (9)) := px_of (g_now_1 )
theorem px_p_now_2 {d : Nat → Nat → Int32} {w : Nat → Nat → Int64} {v : Int32} {K : q_H → Prop} : q_on (e_put 4 2 (S0, d, w) (.ref (7)) (.int v)) K ↔ K (S0, q_d d (7) 2 v, w) := px_of (p_now_2 )
theorem px_p_now_3 {d : Nat → Nat → Int32} {w : Nat → Nat → Int64} {v : Int32} {K : q_H → Prop} : q_on (e_put 4 3 (S0, d, w) (.ref (7)) (.int v)) K ↔ K (S0, q_d d (7) 3 v, w) := px_of (p_now_3 )
theorem px_g_kept_0 {d : Nat → Nat → Int32} {w : Nat → Nat → Int64} {K : Value → Prop} : q_on (o_get 4 0 (S0, d, w) (.ref (20))) K ↔ K (.ref (21)) := px_of (g_kept_0 )
theorem px_g_kept_1 {d : Nat → Nat → Int32} {w : Nat → Nat → Int64} {K : Value → Prop} : q_on (o_get 4 1 (S0, d, w) (.ref (20))) K ↔ K (.ref (22)) := px_of (g_kept_1 )
theorem px_p_kept_2 {d : Nat → Nat → Int32} {w : Nat → Nat → Int64} {v : Int32} {K : q_H → Prop} : q_on (e_put 4 2 (S0, d, w) (.ref (20)) (.int v)) K ↔ K (S0, q_d d (20) 2 v, w) := px_of (p_kept_2 )
theorem px_p_kept_3 {d : Nat → Nat → Int32} {w : Nat → Nat → Int64} {v : Int32} {K : q_H → Prop} : q_on (e_put 4 3 (S0, d, w) (.ref (20)) (.int v)) K ↔ K (S0, q_d d (20) 3 v, w) := px_of (p_kept_3 )
theorem px_g_reader_0 {d : Nat → Nat → Int32} {w : Nat → Nat → Int64} {K : Value → Prop} : q_on (o_get 5 0 (S0, d, w) (.ref (33))) K ↔ K (.ref (34)) := px_of (g_reader_0 )
theorem px_p_reader_1 {d : Nat → Nat → Int32} {w : Nat → Nat → Int64} {v : Int32} {K : q_H → Prop} : q_on (e_put 5 1 (S0, d, w) (.ref (33)) (.int v)) K ↔ K (S0, q_d d (33) 1 v, w) := px_of (p_reader_1 )
theorem px_p_reader_2 {d : Nat → Nat → Int32} {w : Nat → Nat → Int64} {v : Int32} {K : q_H → Prop} : q_on (e_put 5 2 (S0, d, w) (.ref (33)) (.int v)) K ↔ K (S0, q_d d (33) 2 v, w) := px_of (p_reader_2 )
theorem px_p_reader_3 {d : Nat → Nat → Int32} {w : Nat → Nat → Int64} {v : Int32} {K : q_H → Prop} : q_on (e_put 5 3 (S0, d, w) (.ref (33)) (.int v)) K ↔ K (S0, q_d d (33) 3 v, w) := px_of (p_reader_3 )
theorem px_p_reader_4 {d : Nat → Nat → Int32} {w : Nat → Nat → Int64} {v : Int32} {K : q_H → Prop} : q_on (e_put 5 4 (S0, d, w) (.ref (33)) (.int v)) K ↔ K (S0, q_d d (33) 4 v, w) := px_of (p_reader_4 )
theorem px_p_reader_5 {d : Nat → Nat → Int32} {w : Nat → Nat → Int64} {v : Int32} {K : q_H → Prop} : q_on (e_put 5 5 (S0, d, w) (.ref (33)) (.int v)) K ↔ K (S0, q_d d (33) 5 v, w) := px_of (p_reader_5 )
theorem px_g_reader_6 {d : Nat → Nat → Int32} {w : Nat → Nat → Int64} {K : Value → Prop} : q_on (o_get 5 6 (S0, d, w) (.ref (33))) K ↔ K (.ref (35)) := px_of (g_reader_6 )
theorem px_g_draft_0 {d : Nat → Nat → Int32} {w : Nat → Nat → Int64} {K : Value → Prop} : q_on (o_get 8 0 (S0, d, w) (.ref (35))) K ↔ K (.ref (36)) := px_of (g_draft_0 )
theorem px_g_draft_1 {d : Nat → Nat → Int32} {w : Nat → Nat → Int64} {K : Value → Prop} : q_on (o_get 8 1 (S0, d, w) (.ref (35))) K ↔ K (.ref (37)) := px_of (g_draft_1 )
theorem px_p_draft_2 {d : Nat → Nat → Int32} {w : Nat → Nat → Int64} {v : Int32} {K : q_H → Prop} : q_on (e_put 8 2 (S0, d, w) (.ref (35)) (.int v)) K ↔ K (S0, q_d d (35) 2 v, w) := px_of (p_draft_2 )
theorem px_p_draft_3 {d : Nat → Nat → Int32} {w : Nat → Nat → Int64} {v : Int32} {K : q_H → Prop} : q_on (e_put 8 3 (S0, d, w) (.ref (35)) (.int v)) K ↔ K (S0, q_d d (35) 3 v, w) := px_of (p_draft_3 )
theorem px_g_mach_0 {d : Nat → Nat → Int32} {w : Nat → Nat → Int64} {K : Value → Prop} : q_on (o_get 3 0 (S0, d, w) (.ref (38))) K ↔ K (.ref (39)) := px_of (g_mach_0 )
theorem px_g_mach_1 {d : Nat → Nat → Int32} {w : Nat → Nat → Int64} {K : Value → Prop} : q_on (o_get 3 1 (S0, d, w) (.ref (38))) K ↔ K (.ref (40)) := px_of (g_mach_1 )
theorem px_p_mach_2 {d : Nat → Nat → Int32} {w : Nat → Nat → Int64} {v : Int32} {K : q_H → Prop} : q_on (e_put 3 2 (S0, d, w) (.ref (38)) (.int v)) K ↔ K (S0, q_d d (38) 2 v, w) := px_of (p_mach_2 )
theorem px_g_sum_0 {d : Nat → Nat → Int32} {w : Nat → Nat → Int64} {K : Value → Prop} : q_on (o_get 7 0 (S0, d, w) (.ref (41))) K ↔ K (.ref (42)) := px_of (g_sum_0 )
theorem px_p_fuse_0 {d : Nat → Nat → Int32} {w : Nat → Nat → Int64} {i : Nat} (hi : i < 6) {v : Int32} {K : q_H → Prop} : q_on (e_put 1 0 (S0, d, w) (.ref (45 + i)) (.int v)) K ↔ K (S0, q_d d (45 + i) 0 v, w) := px_of (p_fuse_0 hi)
theorem px_p_fuse_1 {d : Nat → Nat → Int32} {w : Nat → Nat → Int64} {i : Nat} (hi : i < 6) {v : Int32} {K : q_H → Prop} : q_on (e_put 1 1 (S0, d, w) (.ref (45 + i)) (.int v)) K ↔ K (S0, q_d d (45 + i) 1 v, w) := px_of (p_fuse_1 hi)
theorem px_p_fuse_2 {d : Nat → Nat → Int32} {w : Nat → Nat → Int64} {i : Nat} (hi : i < 6) {v : Int32} {K : q_H → Prop} : q_on (e_put 1 2 (S0, d, w) (.ref (45 + i)) (.int v)) K ↔ K (S0, q_d d (45 + i) 2 v, w) := px_of (p_fuse_2 hi)
theorem px_p_lamp_0 {d : Nat → Nat → Int32} {w : Nat → Nat → Int64} {i : Nat} (hi : i < 10) {v : Int32} {K : q_H → Prop} : q_on (e_put 2 0 (S0, d, w) (.ref (51 + i)) (.int v)) K ↔ K (S0, q_d d (51 + i) 0 v, w) := px_of (p_lamp_0 hi)
theorem px_p_lamp_1 {d : Nat → Nat → Int32} {w : Nat → Nat → Int64} {i : Nat} (hi : i < 10) {v : Int32} {K : q_H → Prop} : q_on (e_put 2 1 (S0, d, w) (.ref (51 + i)) (.int v)) K ↔ K (S0, q_d d (51 + i) 1 v, w) := px_of (p_lamp_1 hi)
theorem px_p_lamp_2 {d : Nat → Nat → Int32} {w : Nat → Nat → Int64} {i : Nat} (hi : i < 10) {v : Int32} {K : q_H → Prop} : q_on (e_put 2 2 (S0, d, w) (.ref (51 + i)) (.int v)) K ↔ K (S0, q_d d (51 + i) 2 v, w) := px_of (p_lamp_2 hi)
theorem px_p_lamp_3 {d : Nat → Nat → Int32} {w : Nat → Nat → Int64} {i : Nat} (hi : i < 10) {v : Int32} {K : q_H → Prop} : q_on (e_put 2 3 (S0, d, w) (.ref (51 + i)) (.int v)) K ↔ K (S0, q_d d (51 + i) 3 v, w) := px_of (p_lamp_3 hi)
theorem px_p_lamp_4 {d : Nat → Nat → Int32} {w : Nat → Nat → Int64} {i : Nat} (hi : i < 10) {v : Int32} {K : q_H → Prop} : q_on (e_put 2 4 (S0, d, w) (.ref (51 + i)) (.int v)) K ↔ K (S0, q_d d (51 + i) 4 v, w) := px_of (p_lamp_4 hi)
theorem px_p_lamp_5 {d : Nat → Nat → Int32} {w : Nat → Nat → Int64} {i : Nat} (hi : i < 10) {v : Int32} {K : q_H → Prop} : q_on (e_put 2 5 (S0, d, w) (.ref (51 + i)) (.int v)) K ↔ K (S0, q_d d (51 + i) 5 v, w) := px_of (p_lamp_5 hi)
theorem px_g_house_0 {d : Nat → Nat → Int32} {w : Nat → Nat → Int64} {i : Nat} (hi : i < 12) {K : Value → Prop} : q_on (o_get 9 0 (S0, d, w) (.ref (61 + 3 * i))) K ↔ K (.ref (62 + 3 * i)) := px_of (g_house_0 hi)
theorem px_g_house_1 {d : Nat → Nat → Int32} {w : Nat → Nat → Int64} {i : Nat} (hi : i < 12) {K : Value → Prop} : q_on (o_get 9 1 (S0, d, w) (.ref (61 + 3 * i))) K ↔ K (.ref (63 + 3 * i)) := px_of (g_house_1 hi)
theorem px_p_house_2 {d : Nat → Nat → Int32} {w : Nat → Nat → Int64} {i : Nat} (hi : i < 12) {v : Int32} {K : q_H → Prop} : q_on (e_put 9 2 (S0, d, w) (.ref (61 + 3 * i)) (.int v)) K ↔ K (S0, q_d d (61 + 3 * i) 2 v, w) := px_of (p_house_2 hi)
theorem px_g_label_0 {d : Nat → Nat → Int32} {w : Nat → Nat → Int64} {i : Nat} (hi : i < 4) {K : Value → Prop} : q_on (o_get 9 0 (S0, d, w) (.ref (97 + 3 * i))) K ↔ K (.ref (98 + 3 * i)) := px_of (g_label_0 hi)
theorem px_g_label_1 {d : Nat → Nat → Int32} {w : Nat → Nat → Int64} {i : Nat} (hi : i < 4) {K : Value → Prop} : q_on (o_get 9 1 (S0, d, w) (.ref (97 + 3 * i))) K ↔ K (.ref (99 + 3 * i)) := px_of (g_label_1 hi)
theorem px_p_label_2 {d : Nat → Nat → Int32} {w : Nat → Nat → Int64} {i : Nat} (hi : i < 4) {v : Int32} {K : q_H → Prop} : q_on (e_put 9 2 (S0, d, w) (.ref (97 + 3 * i)) (.int v)) K ↔ K (S0, q_d d (97 + 3 * i) 2 v, w) := px_of (p_label_2 hi)
theorem px_g_text_0 {d : Nat → Nat → Int32} {w : Nat → Nat → Int64} {i : Nat} (hi : i < 6) {K : Value → Prop} : q_on (o_get 8 0 (S0, d, w) (.ref (109 + 3 * i))) K ↔ K (.ref (110 + 3 * i)) := px_of (g_text_0 hi)
theorem px_g_text_1 {d : Nat → Nat → Int32} {w : Nat → Nat → Int64} {i : Nat} (hi : i < 6) {K : Value → Prop} : q_on (o_get 8 1 (S0, d, w) (.ref (109 + 3 * i))) K ↔ K (.ref (111 + 3 * i)) := px_of (g_text_1 hi)
theorem px_p_text_2 {d : Nat → Nat → Int32} {w : Nat → Nat → Int64} {i : Nat} (hi : i < 6) {v : Int32} {K : q_H → Prop} : q_on (e_put 8 2 (S0, d, w) (.ref (109 + 3 * i)) (.int v)) K ↔ K (S0, q_d d (109 + 3 * i) 2 v, w) := px_of (p_text_2 hi)
theorem px_p_text_3 {d : Nat → Nat → Int32} {w : Nat → Nat → Int64} {i : Nat} (hi : i < 6) {v : Int32} {K : q_H → Prop} : q_on (e_put 8 3 (S0, d, w) (.ref (109 + 3 * i)) (.int v)) K ↔ K (S0, q_d d (109 + 3 * i) 3 v, w) := px_of (p_text_3 hi)
theorem px_g_sheet_0 {d : Nat → Nat → Int32} {w : Nat → Nat → Int64} {i : Nat} (hi : i < 4) {K : Value → Prop} : q_on (o_get 6 0 (S0, d, w) (.ref (127 + 2 * i))) K ↔ K (.ref (128 + 2 * i)) := px_of (g_sheet_0 hi)
theorem px_p_sheet_1 {d : Nat → Nat → Int32} {w : Nat → Nat → Int64} {i : Nat} (hi : i < 4) {v : Int32} {K : q_H → Prop} : q_on (e_put 6 1 (S0, d, w) (.ref (127 + 2 * i)) (.int v)) K ↔ K (S0, q_d d (127 + 2 * i) 1 v, w) := px_of (p_sheet_1 hi)
theorem px_p_sheet_2 {d : Nat → Nat → Int32} {w : Nat → Nat → Int64} {i : Nat} (hi : i < 4) {v : Int32} {K : q_H → Prop} : q_on (e_put 6 2 (S0, d, w) (.ref (127 + 2 * i)) (.int v)) K ↔ K (S0, q_d d (127 + 2 * i) 2 v, w) := px_of (p_sheet_2 hi)
theorem px_p_ask_0 {d : Nat → Nat → Int32} {w : Nat → Nat → Int64} {i : Nat} (hi : i < 10) {v : Int32} {K : q_H → Prop} : q_on (e_put 0 0 (S0, d, w) (.ref (10 + i)) (.int v)) K ↔ K (S0, q_d d (10 + i) 0 v, w) := px_of (p_ask_0 hi)
theorem px_p_ask_1 {d : Nat → Nat → Int32} {w : Nat → Nat → Int64} {i : Nat} (hi : i < 10) {v : Int32} {K : q_H → Prop} : q_on (e_put 0 1 (S0, d, w) (.ref (10 + i)) (.int v)) K ↔ K (S0, q_d d (10 + i) 1 v, w) := px_of (p_ask_1 hi)
theorem px_p_ask_2 {d : Nat → Nat → Int32} {w : Nat → Nat → Int64} {i : Nat} (hi : i < 10) {v : Int32} {K : q_H → Prop} : q_on (e_put 0 2 (S0, d, w) (.ref (10 + i)) (.int v)) K ↔ K (S0, q_d d (10 + i) 2 v, w) := px_of (p_ask_2 hi)
theorem px_p_ask_3 {d : Nat → Nat → Int32} {w : Nat → Nat → Int64} {i : Nat} (hi : i < 10) {v : Int32} {K : q_H → Prop} : q_on (e_put 0 3 (S0, d, w) (.ref (10 + i)) (.int v)) K ↔ K (S0, q_d d (10 + i) 3 v, w) := px_of (p_ask_3 hi)
theorem px_p_ask_4 {d : Nat → Nat → Int32} {w : Nat → Nat → Int64} {i : Nat} (hi : i < 10) {v : Int32} {K : q_H → Prop} : q_on (e_put 0 4 (S0, d, w) (.ref (10 + i)) (.int v)) K ↔ K (S0, q_d d (10 + i) 4 v, w) := px_of (p_ask_4 hi)
theorem px_p_kask_0 {d : Nat → Nat → Int32} {w : Nat → Nat → Int64} {i : Nat} (hi : i < 10) {v : Int32} {K : q_H → Prop} : q_on (e_put 0 0 (S0, d, w) (.ref (23 + i)) (.int v)) K ↔ K (S0, q_d d (23 + i) 0 v, w) := px_of (p_kask_0 hi)
theorem px_p_kask_1 {d : Nat → Nat → Int32} {w : Nat → Nat → Int64} {i : Nat} (hi : i < 10) {v : Int32} {K : q_H → Prop} : q_on (e_put 0 1 (S0, d, w) (.ref (23 + i)) (.int v)) K ↔ K (S0, q_d d (23 + i) 1 v, w) := px_of (p_kask_1 hi)
theorem px_p_kask_2 {d : Nat → Nat → Int32} {w : Nat → Nat → Int64} {i : Nat} (hi : i < 10) {v : Int32} {K : q_H → Prop} : q_on (e_put 0 2 (S0, d, w) (.ref (23 + i)) (.int v)) K ↔ K (S0, q_d d (23 + i) 2 v, w) := px_of (p_kask_2 hi)
theorem px_p_kask_3 {d : Nat → Nat → Int32} {w : Nat → Nat → Int64} {i : Nat} (hi : i < 10) {v : Int32} {K : q_H → Prop} : q_on (e_put 0 3 (S0, d, w) (.ref (23 + i)) (.int v)) K ↔ K (S0, q_d d (23 + i) 3 v, w) := px_of (p_kask_3 hi)
theorem px_p_kask_4 {d : Nat → Nat → Int32} {w : Nat → Nat → Int64} {i : Nat} (hi : i < 10) {v : Int32} {K : q_H → Prop} : q_on (e_put 0 4 (S0, d, w) (.ref (23 + i)) (.int v)) K ↔ K (S0, q_d d (23 + i) 4 v, w) := px_of (p_kask_4 hi)
theorem px_as_dials {d : Nat → Nat → Int32} {w : Nat → Nat → Int64} {j : Nat} {v : Int32} (hj : j < 4) {K : q_H → Prop} : q_on (e_iast (S0, d, w) (.ref (8)) (.int (nI j)) (.int v)) K ↔ K (S0, q_d d (8) j v, w) := px_of (as_dials hj)
theorem px_as_kdials {d : Nat → Nat → Int32} {w : Nat → Nat → Int64} {j : Nat} {v : Int32} (hj : j < 4) {K : q_H → Prop} : q_on (e_iast (S0, d, w) (.ref (21)) (.int (nI j)) (.int v)) K ↔ K (S0, q_d d (21) j v, w) := px_of (as_kdials hj)
theorem px_as_bytes {d : Nat → Nat → Int32} {w : Nat → Nat → Int64} {j : Nat} {v : Int32} (hj : j < 160) {K : q_H → Prop} : q_on (e_iast (S0, d, w) (.ref (34)) (.int (nI j)) (.int v)) K ↔ K (S0, q_d d (34) j v, w) := px_of (as_bytes hj)
theorem px_as_dsteps {d : Nat → Nat → Int32} {w : Nat → Nat → Int64} {j : Nat} {v : Int32} (hj : j < 160) {K : q_H → Prop} : q_on (e_iast (S0, d, w) (.ref (36)) (.int (nI j)) (.int v)) K ↔ K (S0, q_d d (36) j v, w) := px_of (as_dsteps hj)
theorem px_as_dends {d : Nat → Nat → Int32} {w : Nat → Nat → Int64} {j : Nat} {v : Int32} (hj : j < 3) {K : q_H → Prop} : q_on (e_iast (S0, d, w) (.ref (37)) (.int (nI j)) (.int v)) K ↔ K (S0, q_d d (37) j v, w) := px_of (as_dends hj)
theorem px_as_mnames {d : Nat → Nat → Int32} {w : Nat → Nat → Int64} {j : Nat} {v : Int32} (hj : j < 6) {K : q_H → Prop} : q_on (e_iast (S0, d, w) (.ref (39)) (.int (nI j)) (.int v)) K ↔ K (S0, q_d d (39) j v, w) := px_of (as_mnames hj)
theorem px_as_mstack {d : Nat → Nat → Int32} {w : Nat → Nat → Int64} {j : Nat} {v : Int32} (hj : j < 160) {K : q_H → Prop} : q_on (e_iast (S0, d, w) (.ref (40)) (.int (nI j)) (.int v)) K ↔ K (S0, q_d d (40) j v, w) := px_of (as_mstack hj)
theorem px_as_shows {d : Nat → Nat → Int32} {w : Nat → Nat → Int64} {j : Nat} {v : Int32} (hj : j < 768) {K : q_H → Prop} : q_on (e_iast (S0, d, w) (.ref (43)) (.int (nI j)) (.int v)) K ↔ K (S0, q_d d (43) j v, w) := px_of (as_shows hj)
theorem px_as_said {d : Nat → Nat → Int32} {w : Nat → Nat → Int64} {j : Nat} {v : Int32} (hj : j < 110) {K : q_H → Prop} : q_on (e_iast (S0, d, w) (.ref (44)) (.int (nI j)) (.int v)) K ↔ K (S0, q_d d (44) j v, w) := px_of (as_said hj)
theorem px_as_fuseOf {d : Nat → Nat → Int32} {w : Nat → Nat → Int64} {j : Nat} {i : Nat} (hi : i < 12) {v : Int32} (hj : j < 10) {K : q_H → Prop} : q_on (e_iast (S0, d, w) (.ref (62 + 3 * i)) (.int (nI j)) (.int v)) K ↔ K (S0, q_d d (62 + 3 * i) j v, w) := px_of (as_fuseOf hi hj)
theorem px_as_feeds {d : Nat → Nat → Int32} {w : Nat → Nat → Int64} {j : Nat} {i : Nat} (hi : i < 12) {v : Int32} (hj : j < 6) {K : q_H → Prop} : q_on (e_iast (S0, d, w) (.ref (63 + 3 * i)) (.int (nI j)) (.int v)) K ↔ K (S0, q_d d (63 + 3 * i) j v, w) := px_of (as_feeds hi hj)
theorem px_as_lfuseOf {d : Nat → Nat → Int32} {w : Nat → Nat → Int64} {j : Nat} {i : Nat} (hi : i < 4) {v : Int32} (hj : j < 10) {K : q_H → Prop} : q_on (e_iast (S0, d, w) (.ref (98 + 3 * i)) (.int (nI j)) (.int v)) K ↔ K (S0, q_d d (98 + 3 * i) j v, w) := px_of (as_lfuseOf hi hj)
theorem px_as_lfeeds {d : Nat → Nat → Int32} {w : Nat → Nat → Int64} {j : Nat} {i : Nat} (hi : i < 4) {v : Int32} (hj : j < 6) {K : q_H → Prop} : q_on (e_iast (S0, d, w) (.ref (99 + 3 * i)) (.int (nI j)) (.int v)) K ↔ K (S0, q_d d (99 + 3 * i) j v, w) := px_of (as_lfeeds hi hj)
theorem px_as_steps {d : Nat → Nat → Int32} {w : Nat → Nat → Int64} {j : Nat} {i : Nat} (hi : i < 6) {v : Int32} (hj : j < 160) {K : q_H → Prop} : q_on (e_iast (S0, d, w) (.ref (110 + 3 * i)) (.int (nI j)) (.int v)) K ↔ K (S0, q_d d (110 + 3 * i) j v, w) := px_of (as_steps hi hj)
theorem px_as_ends {d : Nat → Nat → Int32} {w : Nat → Nat → Int64} {j : Nat} {i : Nat} (hi : i < 6) {v : Int32} (hj : j < 3) {K : q_H → Prop} : q_on (e_iast (S0, d, w) (.ref (111 + 3 * i)) (.int (nI j)) (.int v)) K ↔ K (S0, q_d d (111 + 3 * i) j v, w) := px_of (as_ends hi hj)
theorem px_as_cells {d : Nat → Nat → Int32} {w : Nat → Nat → Int64} {j : Nat} {i : Nat} (hi : i < 4) {v : Int32} (hj : j < 40) {K : q_H → Prop} : q_on (e_iast (S0, d, w) (.ref (128 + 2 * i)) (.int (nI j)) (.int v)) K ↔ K (S0, q_d d (128 + 2 * i) j v, w) := px_of (as_cells hi hj)
theorem px_as_rbears {d : Nat → Nat → Int32} {w : Nat → Nat → Int64} {j : Nat} {v : Int32} (hj : j < 6) {K : q_H → Prop} : q_on (e_iast (S0, d, w) (.ref (136)) (.int (nI j)) (.int v)) K ↔ K (S0, q_d d (136) j v, w) := px_of (as_rbears hj)
theorem px_as_rtimes {d : Nat → Nat → Int32} {w : Nat → Nat → Int64} {j : Nat} {v : Int32} (hj : j < 6) {K : q_H → Prop} : q_on (e_iast (S0, d, w) (.ref (137)) (.int (nI j)) (.int v)) K ↔ K (S0, q_d d (137) j v, w) := px_of (as_rtimes hj)
theorem px_as_rkind {d : Nat → Nat → Int32} {w : Nat → Nat → Int64} {j : Nat} {v : Int32} (hj : j < 10) {K : q_H → Prop} : q_on (e_iast (S0, d, w) (.ref (138)) (.int (nI j)) (.int v)) K ↔ K (S0, q_d d (138) j v, w) := px_of (as_rkind hj)
theorem px_as_rpower {d : Nat → Nat → Int32} {w : Nat → Nat → Int64} {j : Nat} {v : Int32} (hj : j < 10) {K : q_H → Prop} : q_on (e_iast (S0, d, w) (.ref (139)) (.int (nI j)) (.int v)) K ↔ K (S0, q_d d (139) j v, w) := px_of (as_rpower hj)
theorem px_as_rroomOf {d : Nat → Nat → Int32} {w : Nat → Nat → Int64} {j : Nat} {v : Int32} (hj : j < 10) {K : q_H → Prop} : q_on (e_iast (S0, d, w) (.ref (140)) (.int (nI j)) (.int v)) K ↔ K (S0, q_d d (140) j v, w) := px_of (as_rroomOf hj)
theorem px_as_rswitchX {d : Nat → Nat → Int32} {w : Nat → Nat → Int64} {j : Nat} {v : Int32} (hj : j < 10) {K : q_H → Prop} : q_on (e_iast (S0, d, w) (.ref (141)) (.int (nI j)) (.int v)) K ↔ K (S0, q_d d (141) j v, w) := px_of (as_rswitchX hj)
theorem px_as_rswitchY {d : Nat → Nat → Int32} {w : Nat → Nat → Int64} {j : Nat} {v : Int32} (hj : j < 10) {K : q_H → Prop} : q_on (e_iast (S0, d, w) (.ref (142)) (.int (nI j)) (.int v)) K ↔ K (S0, q_d d (142) j v, w) := px_of (as_rswitchY hj)
theorem px_as_rmore {d : Nat → Nat → Int32} {w : Nat → Nat → Int64} {j : Nat} {v : Int32} (hj : j < 10) {K : q_H → Prop} : q_on (e_iast (S0, d, w) (.ref (143)) (.int (nI j)) (.int v)) K ↔ K (S0, q_d d (143) j v, w) := px_of (as_rmore hj)
theorem px_as_rfed {d : Nat → Nat → Int32} {w : Nat → Nat → Int64} {j : Nat} {v : Int32} (hj : j < 120) {K : q_H → Prop} : q_on (e_iast (S0, d, w) (.ref (144)) (.int (nI j)) (.int v)) K ↔ K (S0, q_d d (144) j v, w) := px_of (as_rfed hj)
theorem px_as_raskOuts {d : Nat → Nat → Int32} {w : Nat → Nat → Int64} {j : Nat} {v : Int32} (hj : j < 10) {K : q_H → Prop} : q_on (e_iast (S0, d, w) (.ref (145)) (.int (nI j)) (.int v)) K ↔ K (S0, q_d d (145) j v, w) := px_of (as_raskOuts hj)
theorem px_as_raskOns {d : Nat → Nat → Int32} {w : Nat → Nat → Int64} {j : Nat} {v : Int32} (hj : j < 10) {K : q_H → Prop} : q_on (e_iast (S0, d, w) (.ref (146)) (.int (nI j)) (.int v)) K ↔ K (S0, q_d d (146) j v, w) := px_of (as_raskOns hj)
theorem px_as_raskHour {d : Nat → Nat → Int32} {w : Nat → Nat → Int64} {j : Nat} {v : Int32} (hj : j < 10) {K : q_H → Prop} : q_on (e_iast (S0, d, w) (.ref (147)) (.int (nI j)) (.int v)) K ↔ K (S0, q_d d (147) j v, w) := px_of (as_raskHour hj)
theorem px_as_raskRooms {d : Nat → Nat → Int32} {w : Nat → Nat → Int64} {j : Nat} {v : Int32} (hj : j < 10) {K : q_H → Prop} : q_on (e_iast (S0, d, w) (.ref (148)) (.int (nI j)) (.int v)) K ↔ K (S0, q_d d (148) j v, w) := px_of (as_raskRooms hj)
theorem px_as_raskSeen {d : Nat → Nat → Int32} {w : Nat → Nat → Int64} {j : Nat} {v : Int32} (hj : j < 10) {K : q_H → Prop} : q_on (e_iast (S0, d, w) (.ref (149)) (.int (nI j)) (.int v)) K ↔ K (S0, q_d d (149) j v, w) := px_of (as_raskSeen hj)
theorem px_as_ryears {d : Nat → Nat → Int32} {w : Nat → Nat → Int64} {j : Nat} {v : Int32} (hj : j < 4) {K : q_H → Prop} : q_on (e_iast (S0, d, w) (.ref (150)) (.int (nI j)) (.int v)) K ↔ K (S0, q_d d (150) j v, w) := px_of (as_ryears hj)
theorem px_as_rlabelled {d : Nat → Nat → Int32} {w : Nat → Nat → Int64} {j : Nat} {v : Int32} (hj : j < 40) {K : q_H → Prop} : q_on (e_iast (S0, d, w) (.ref (151)) (.int (nI j)) (.int v)) K ↔ K (S0, q_d d (151) j v, w) := px_of (as_rlabelled hj)
theorem px_as_rtape {d : Nat → Nat → Int32} {w : Nat → Nat → Int64} {j : Nat} {v : Int32} (hj : j < 160) {K : q_H → Prop} : q_on (e_iast (S0, d, w) (.ref (152)) (.int (nI j)) (.int v)) K ↔ K (S0, q_d d (152) j v, w) := px_of (as_rtape hj)
theorem px_as_rcodes {d : Nat → Nat → Int32} {w : Nat → Nat → Int64} {j : Nat} {v : Int32} (hj : j < 1200) {K : q_H → Prop} : q_on (e_iast (S0, d, w) (.ref (153)) (.int (nI j)) (.int v)) K ↔ K (S0, q_d d (153) j v, w) := px_of (as_rcodes hj)
theorem px_as_rstarts {d : Nat → Nat → Int32} {w : Nat → Nat → Int64} {j : Nat} {v : Int32} (hj : j < 24) {K : q_H → Prop} : q_on (e_iast (S0, d, w) (.ref (154)) (.int (nI j)) (.int v)) K ↔ K (S0, q_d d (154) j v, w) := px_of (as_rstarts hj)
theorem px_as_rimageAskOuts {d : Nat → Nat → Int32} {w : Nat → Nat → Int64} {j : Nat} {v : Int32} (hj : j < 10) {K : q_H → Prop} : q_on (e_iast (S0, d, w) (.ref (155)) (.int (nI j)) (.int v)) K ↔ K (S0, q_d d (155) j v, w) := px_of (as_rimageAskOuts hj)
theorem px_as_rimageAskOns {d : Nat → Nat → Int32} {w : Nat → Nat → Int64} {j : Nat} {v : Int32} (hj : j < 10) {K : q_H → Prop} : q_on (e_iast (S0, d, w) (.ref (156)) (.int (nI j)) (.int v)) K ↔ K (S0, q_d d (156) j v, w) := px_of (as_rimageAskOns hj)
theorem px_as_rimageAskHour {d : Nat → Nat → Int32} {w : Nat → Nat → Int64} {j : Nat} {v : Int32} (hj : j < 10) {K : q_H → Prop} : q_on (e_iast (S0, d, w) (.ref (157)) (.int (nI j)) (.int v)) K ↔ K (S0, q_d d (157) j v, w) := px_of (as_rimageAskHour hj)
theorem px_as_rimageAskRooms {d : Nat → Nat → Int32} {w : Nat → Nat → Int64} {j : Nat} {v : Int32} (hj : j < 10) {K : q_H → Prop} : q_on (e_iast (S0, d, w) (.ref (158)) (.int (nI j)) (.int v)) K ↔ K (S0, q_d d (158) j v, w) := px_of (as_rimageAskRooms hj)
theorem px_as_rimageAskSeen {d : Nat → Nat → Int32} {w : Nat → Nat → Int64} {j : Nat} {v : Int32} (hj : j < 10) {K : q_H → Prop} : q_on (e_iast (S0, d, w) (.ref (159)) (.int (nI j)) (.int v)) K ↔ K (S0, q_d d (159) j v, w) := px_of (as_rimageAskSeen hj)
theorem px_as_rsheetSort {d : Nat → Nat → Int32} {w : Nat → Nat → Int64} {j : Nat} {v : Int32} (hj : j < 4) {K : q_H → Prop} : q_on (e_iast (S0, d, w) (.ref (160)) (.int (nI j)) (.int v)) K ↔ K (S0, q_d d (160) j v, w) := px_of (as_rsheetSort hj)
theorem px_as_rsheetSize {d : Nat → Nat → Int32} {w : Nat → Nat → Int64} {j : Nat} {v : Int32} (hj : j < 4) {K : q_H → Prop} : q_on (e_iast (S0, d, w) (.ref (161)) (.int (nI j)) (.int v)) K ↔ K (S0, q_d d (161) j v, w) := px_of (as_rsheetSize hj)
theorem px_as_rcells {d : Nat → Nat → Int32} {w : Nat → Nat → Int64} {j : Nat} {v : Int32} (hj : j < 160) {K : q_H → Prop} : q_on (e_iast (S0, d, w) (.ref (162)) (.int (nI j)) (.int v)) K ↔ K (S0, q_d d (162) j v, w) := px_of (as_rcells hj)
theorem px_as_rheld {d : Nat → Nat → Int32} {w : Nat → Nat → Int64} {j : Nat} {v : Int32} (hj : j < 200) {K : q_H → Prop} : q_on (e_iast (S0, d, w) (.ref (164)) (.int (nI j)) (.int v)) K ↔ K (S0, q_d d (164) j v, w) := px_of (as_rheld hj)
theorem px_as_rstack {d : Nat → Nat → Int32} {w : Nat → Nat → Int64} {j : Nat} {v : Int32} (hj : j < 200) {K : q_H → Prop} : q_on (e_iast (S0, d, w) (.ref (165)) (.int (nI j)) (.int v)) K ↔ K (S0, q_d d (165) j v, w) := px_of (as_rstack hj)
theorem px_as_rnamed {d : Nat → Nat → Int32} {w : Nat → Nat → Int64} {j : Nat} {v : Int32} (hj : j < 6) {K : q_H → Prop} : q_on (e_iast (S0, d, w) (.ref (166)) (.int (nI j)) (.int v)) K ↔ K (S0, q_d d (166) j v, w) := px_of (as_rnamed hj)
theorem px_as_rshown {d : Nat → Nat → Int32} {w : Nat → Nat → Int64} {j : Nat} {v : Int32} (hj : j < 12) {K : q_H → Prop} : q_on (e_iast (S0, d, w) (.ref (167)) (.int (nI j)) (.int v)) K ↔ K (S0, q_d d (167) j v, w) := px_of (as_rshown hj)
theorem px_as_rgroups {d : Nat → Nat → Int32} {w : Nat → Nat → Int64} {j : Nat} {v : Int32} (hj : j < 12) {K : q_H → Prop} : q_on (e_iast (S0, d, w) (.ref (168)) (.int (nI j)) (.int v)) K ↔ K (S0, q_d d (168) j v, w) := px_of (as_rgroups hj)
theorem px_as_rsumSeen {d : Nat → Nat → Int32} {w : Nat → Nat → Int64} {j : Nat} {v : Int32} (hj : j < 1000) {K : q_H → Prop} : q_on (e_iast (S0, d, w) (.ref (169)) (.int (nI j)) (.int v)) K ↔ K (S0, q_d d (169) j v, w) := px_of (as_rsumSeen hj)
theorem px_as_rfeeds {d : Nat → Nat → Int32} {w : Nat → Nat → Int64} {j : Nat} {v : Int32} (hj : j < 6) {K : q_H → Prop} : q_on (e_iast (S0, d, w) (.ref (170)) (.int (nI j)) (.int v)) K ↔ K (S0, q_d d (170) j v, w) := px_of (as_rfeeds hj)
theorem px_as_words {d : Nat → Nat → Int32} {w : Nat → Nat → Int64} {j : Nat} {v : Int64} (hj : j < 16) {K : q_H → Prop} : q_on (e_last (S0, d, w) (.ref (42)) (.int (nI j)) (.long v)) K ↔ K (S0, d, q_w w (42) j v) := px_of (as_words hj)
theorem px_as_rwords {d : Nat → Nat → Int32} {w : Nat → Nat → Int64} {j : Nat} {v : Int64} (hj : j < 12) {K : q_H → Prop} : q_on (e_last (S0, d, w) (.ref (163)) (.int (nI j)) (.long v)) K ↔ K (S0, d, q_w w (163) j v) := px_of (as_rwords hj)
theorem px_ar_fuses {d : Nat → Nat → Int32} {w : Nat → Nat → Int64} {i : Nat} (hi : i < 6) {K : Value → Prop} : q_on (o_aald 1 (S0, d, w) (.ref 1) (.int (nI i))) K ↔ K (.ref (45 + i)) := px_of (ar_fuses hi)
theorem px_ar_lamps {d : Nat → Nat → Int32} {w : Nat → Nat → Int64} {i : Nat} (hi : i < 10) {K : Value → Prop} : q_on (o_aald 2 (S0, d, w) (.ref 2) (.int (nI i))) K ↔ K (.ref (51 + i)) := px_of (ar_lamps hi)
theorem px_ar_houses {d : Nat → Nat → Int32} {w : Nat → Nat → Int64} {i : Nat} (hi : i < 12) {K : Value → Prop} : q_on (o_aald 5 (S0, d, w) (.ref 3) (.int (nI i))) K ↔ K (.ref (61 + 3 * i)) := px_of (ar_houses hi)
theorem px_ar_labels {d : Nat → Nat → Int32} {w : Nat → Nat → Int64} {i : Nat} (hi : i < 4) {K : Value → Prop} : q_on (o_aald 5 (S0, d, w) (.ref 4) (.int (nI i))) K ↔ K (.ref (97 + 3 * i)) := px_of (ar_labels hi)
theorem px_ar_texts {d : Nat → Nat → Int32} {w : Nat → Nat → Int64} {i : Nat} (hi : i < 6) {K : Value → Prop} : q_on (o_aald 4 (S0, d, w) (.ref 5) (.int (nI i))) K ↔ K (.ref (109 + 3 * i)) := px_of (ar_texts hi)
theorem px_ar_sheets {d : Nat → Nat → Int32} {w : Nat → Nat → Int64} {i : Nat} (hi : i < 4) {K : Value → Prop} : q_on (o_aald 3 (S0, d, w) (.ref 6) (.int (nI i))) K ↔ K (.ref (127 + 2 * i)) := px_of (ar_sheets hi)
theorem px_ar_asks {d : Nat → Nat → Int32} {w : Nat → Nat → Int64} {i : Nat} (hi : i < 10) {K : Value → Prop} : q_on (o_aald 0 (S0, d, w) (.ref 9) (.int (nI i))) K ↔ K (.ref (10 + i)) := px_of (ar_asks hi)
theorem px_ar_kasks {d : Nat → Nat → Int32} {w : Nat → Nat → Int64} {i : Nat} (hi : i < 10) {K : Value → Prop} : q_on (o_aald 0 (S0, d, w) (.ref 22) (.int (nI i))) K ↔ K (.ref (23 + i)) := px_of (ar_kasks hi)
theorem kW_F {A : q_A} {d : Nat → Nat → Int32} {w : Nat → Nat → Int64} (hO : q_Ok A) (hR : q_Rw A d) {K : Value → Prop} : q_on (o_get 10 13 (S0, d, w) (.ref (0))) K ↔ K (.int (nI A.F)) := by
  have oF := hO.F; have oL := hO.L; have oH := hO.H; have oK := hO.K; have oT := hO.T; have oB := hO.B
  rw [← hR.F ]
  exact px_of (g_x_13 )
theorem kW_L {A : q_A} {d : Nat → Nat → Int32} {w : Nat → Nat → Int64} (hO : q_Ok A) (hR : q_Rw A d) {K : Value → Prop} : q_on (o_get 10 14 (S0, d, w) (.ref (0))) K ↔ K (.int (nI A.L)) := by
  have oF := hO.F; have oL := hO.L; have oH := hO.H; have oK := hO.K; have oT := hO.T; have oB := hO.B
  rw [← hR.L ]
  exact px_of (g_x_14 )
theorem kW_H {A : q_A} {d : Nat → Nat → Int32} {w : Nat → Nat → Int64} (hO : q_Ok A) (hR : q_Rw A d) {K : Value → Prop} : q_on (o_get 10 15 (S0, d, w) (.ref (0))) K ↔ K (.int (nI A.H)) := by
  have oF := hO.F; have oL := hO.L; have oH := hO.H; have oK := hO.K; have oT := hO.T; have oB := hO.B
  rw [← hR.H ]
  exact px_of (g_x_15 )
theorem kW_K {A : q_A} {d : Nat → Nat → Int32} {w : Nat → Nat → Int64} (hO : q_Ok A) (hR : q_Rw A d) {K : Value → Prop} : q_on (o_get 10 16 (S0, d, w) (.ref (0))) K ↔ K (.int (nI A.K)) := by
  have oF := hO.F; have oL := hO.L; have oH := hO.H; have oK := hO.K; have oT := hO.T; have oB := hO.B
  rw [← hR.K ]
  exact px_of (g_x_16 )
theorem kW_T {A : q_A} {d : Nat → Nat → Int32} {w : Nat → Nat → Int64} (hO : q_Ok A) (hR : q_Rw A d) {K : Value → Prop} : q_on (o_get 10 17 (S0, d, w) (.ref (0))) K ↔ K (.int (nI A.T)) := by
  have oF := hO.F; have oL := hO.L; have oH := hO.H; have oK := hO.K; have oT := hO.T; have oB := hO.B
  rw [← hR.T ]
  exact px_of (g_x_17 )
theorem kW_img {A : q_A} {d : Nat → Nat → Int32} {w : Nat → Nat → Int64} (hO : q_Ok A) (hR : q_Rw A d) {K : Value → Prop} : q_on (o_get 10 18 (S0, d, w) (.ref (0))) K ↔ K (.int (nI A.img)) := by
  have oF := hO.F; have oL := hO.L; have oH := hO.H; have oK := hO.K; have oT := hO.T; have oB := hO.B
  rw [← hR.img ]
  exact px_of (g_x_18 )
theorem kW_N {A : q_A} {d : Nat → Nat → Int32} {w : Nat → Nat → Int64} (hO : q_Ok A) (hR : q_Rw A d) {K : Value → Prop} : q_on (o_get 4 2 (S0, d, w) (.ref (7))) K ↔ K (.int (nI A.N)) := by
  have oF := hO.F; have oL := hO.L; have oH := hO.H; have oK := hO.K; have oT := hO.T; have oB := hO.B
  rw [← hR.N ]
  exact px_of (g_now_2 )
theorem kW_law {A : q_A} {d : Nat → Nat → Int32} {w : Nat → Nat → Int64} (hO : q_Ok A) (hR : q_Rw A d) {K : Value → Prop} : q_on (o_get 4 3 (S0, d, w) (.ref (7))) K ↔ K (.int (nI A.law)) := by
  have oF := hO.F; have oL := hO.L; have oH := hO.H; have oK := hO.K; have oT := hO.T; have oB := hO.B
  rw [← hR.law ]
  exact px_of (g_now_3 )
theorem kW_out {A : q_A} {d : Nat → Nat → Int32} {w : Nat → Nat → Int64} (hO : q_Ok A) (hR : q_Rw A d) {K : Value → Prop} : q_on (o_iald (S0, d, w) (.ref (8)) (.int (nI (0)))) K ↔ K (.int (A.out)) := by
  have oF := hO.F; have oL := hO.L; have oH := hO.H; have oK := hO.K; have oT := hO.T; have oB := hO.B
  rw [← hR.out ]
  exact px_of (al_dials (by omega))
theorem kW_on {A : q_A} {d : Nat → Nat → Int32} {w : Nat → Nat → Int64} (hO : q_Ok A) (hR : q_Rw A d) {K : Value → Prop} : q_on (o_iald (S0, d, w) (.ref (8)) (.int (nI (1)))) K ↔ K (.int (A.on)) := by
  have oF := hO.F; have oL := hO.L; have oH := hO.H; have oK := hO.K; have oT := hO.T; have oB := hO.B
  rw [← hR.on ]
  exact px_of (al_dials (by omega))
theorem kW_hour {A : q_A} {d : Nat → Nat → Int32} {w : Nat → Nat → Int64} (hO : q_Ok A) (hR : q_Rw A d) {K : Value → Prop} : q_on (o_iald (S0, d, w) (.ref (8)) (.int (nI (2)))) K ↔ K (.int (A.hour)) := by
  have oF := hO.F; have oL := hO.L; have oH := hO.H; have oK := hO.K; have oT := hO.T; have oB := hO.B
  rw [← hR.hour ]
  exact px_of (al_dials (by omega))
theorem kW_slips {A : q_A} {d : Nat → Nat → Int32} {w : Nat → Nat → Int64} (hO : q_Ok A) (hR : q_Rw A d) {K : Value → Prop} : q_on (o_iald (S0, d, w) (.ref (8)) (.int (nI (3)))) K ↔ K (.int (A.slips)) := by
  have oF := hO.F; have oL := hO.L; have oH := hO.H; have oK := hO.K; have oT := hO.T; have oB := hO.B
  rw [← hR.slips ]
  exact px_of (al_dials (by omega))
theorem kW_iN {A : q_A} {d : Nat → Nat → Int32} {w : Nat → Nat → Int64} (hO : q_Ok A) (hR : q_Rw A d) {K : Value → Prop} : q_on (o_get 4 2 (S0, d, w) (.ref (20))) K ↔ K (.int (nI A.iN)) := by
  have oF := hO.F; have oL := hO.L; have oH := hO.H; have oK := hO.K; have oT := hO.T; have oB := hO.B
  rw [← hR.iN ]
  exact px_of (g_kept_2 )
theorem kW_ilaw {A : q_A} {d : Nat → Nat → Int32} {w : Nat → Nat → Int64} (hO : q_Ok A) (hR : q_Rw A d) {K : Value → Prop} : q_on (o_get 4 3 (S0, d, w) (.ref (20))) K ↔ K (.int (nI A.ilaw)) := by
  have oF := hO.F; have oL := hO.L; have oH := hO.H; have oK := hO.K; have oT := hO.T; have oB := hO.B
  rw [← hR.ilaw ]
  exact px_of (g_kept_3 )
theorem kW_iout {A : q_A} {d : Nat → Nat → Int32} {w : Nat → Nat → Int64} (hO : q_Ok A) (hR : q_Rw A d) {K : Value → Prop} : q_on (o_iald (S0, d, w) (.ref (21)) (.int (nI (0)))) K ↔ K (.int (A.iout)) := by
  have oF := hO.F; have oL := hO.L; have oH := hO.H; have oK := hO.K; have oT := hO.T; have oB := hO.B
  rw [← hR.iout ]
  exact px_of (al_kdials (by omega))
theorem kW_ion {A : q_A} {d : Nat → Nat → Int32} {w : Nat → Nat → Int64} (hO : q_Ok A) (hR : q_Rw A d) {K : Value → Prop} : q_on (o_iald (S0, d, w) (.ref (21)) (.int (nI (1)))) K ↔ K (.int (A.ion)) := by
  have oF := hO.F; have oL := hO.L; have oH := hO.H; have oK := hO.K; have oT := hO.T; have oB := hO.B
  rw [← hR.ion ]
  exact px_of (al_kdials (by omega))
theorem kW_ihour {A : q_A} {d : Nat → Nat → Int32} {w : Nat → Nat → Int64} (hO : q_Ok A) (hR : q_Rw A d) {K : Value → Prop} : q_on (o_iald (S0, d, w) (.ref (21)) (.int (nI (2)))) K ↔ K (.int (A.ihour)) := by
  have oF := hO.F; have oL := hO.L; have oH := hO.H; have oK := hO.K; have oT := hO.T; have oB := hO.B
  rw [← hR.ihour ]
  exact px_of (al_kdials (by omega))
theorem kW_islips {A : q_A} {d : Nat → Nat → Int32} {w : Nat → Nat → Int64} (hO : q_Ok A) (hR : q_Rw A d) {K : Value → Prop} : q_on (o_iald (S0, d, w) (.ref (21)) (.int (nI (3)))) K ↔ K (.int (A.islips)) := by
  have oF := hO.F; have oL := hO.L; have oH := hO.H; have oK := hO.K; have oT := hO.T; have oB := hO.B
  rw [← hR.islips ]
  exact px_of (al_kdials (by omega))
theorem kW_B {A : q_A} {d : Nat → Nat → Int32} {w : Nat → Nat → Int64} (hO : q_Ok A) (hR : q_Rw A d) {K : Value → Prop} : q_on (o_get 5 1 (S0, d, w) (.ref (33))) K ↔ K (.int (nI A.B)) := by
  have oF := hO.F; have oL := hO.L; have oH := hO.H; have oK := hO.K; have oT := hO.T; have oB := hO.B
  rw [← hR.B ]
  exact px_of (g_reader_1 )
theorem kW_tape {A : q_A} {d : Nat → Nat → Int32} {w : Nat → Nat → Int64} (hO : q_Ok A) (hR : q_Rw A d) {i : Nat} (h0 : i < A.B) {K : Value → Prop} : q_on (o_iald (S0, d, w) (.ref (34)) (.int (nI (i)))) K ↔ K (.int (A.tape i)) := by
  have oF := hO.F; have oL := hO.L; have oH := hO.H; have oK := hO.K; have oT := hO.T; have oB := hO.B
  rw [← hR.tape i h0]
  exact px_of (al_bytes (by omega))
theorem kW_bears {A : q_A} {d : Nat → Nat → Int32} {w : Nat → Nat → Int64} (hO : q_Ok A) (hR : q_Rw A d) {i : Nat} (h0 : i < A.F) {K : Value → Prop} : q_on (o_get 1 0 (S0, d, w) (.ref (45 + i))) K ↔ K (.int (A.bears i)) := by
  have oF := hO.F; have oL := hO.L; have oH := hO.H; have oK := hO.K; have oT := hO.T; have oB := hO.B
  rw [← hR.bears i h0]
  exact px_of (g_fuse_0 (by omega))
theorem kW_times {A : q_A} {d : Nat → Nat → Int32} {w : Nat → Nat → Int64} (hO : q_Ok A) (hR : q_Rw A d) {i : Nat} (h0 : i < A.F) {K : Value → Prop} : q_on (o_get 1 1 (S0, d, w) (.ref (45 + i))) K ↔ K (.int (A.times i)) := by
  have oF := hO.F; have oL := hO.L; have oH := hO.H; have oK := hO.K; have oT := hO.T; have oB := hO.B
  rw [← hR.times i h0]
  exact px_of (g_fuse_1 (by omega))
theorem kW_lends {A : q_A} {d : Nat → Nat → Int32} {w : Nat → Nat → Int64} (hO : q_Ok A) (hR : q_Rw A d) {i : Nat} (h0 : i < 6) {K : Value → Prop} : q_on (o_get 1 2 (S0, d, w) (.ref (45 + i))) K ↔ K (.int (q_bits A.L (fun l => decide (A.kind l = 3) && decide (A.more l = i)))) := by
  have oF := hO.F; have oL := hO.L; have oH := hO.H; have oK := hO.K; have oT := hO.T; have oB := hO.B
  rw [← hR.lends i h0]
  exact px_of (g_fuse_2 (by omega))
theorem kW_kind {A : q_A} {d : Nat → Nat → Int32} {w : Nat → Nat → Int64} (hO : q_Ok A) (hR : q_Rw A d) {l : Nat} (h0 : l < A.L) {K : Value → Prop} : q_on (o_get 2 0 (S0, d, w) (.ref (51 + l))) K ↔ K (.int (nI (A.kind l))) := by
  have oF := hO.F; have oL := hO.L; have oH := hO.H; have oK := hO.K; have oT := hO.T; have oB := hO.B
  rw [← hR.kind l h0]
  exact px_of (g_lamp_0 (by omega))
theorem kW_pow {A : q_A} {d : Nat → Nat → Int32} {w : Nat → Nat → Int64} (hO : q_Ok A) (hR : q_Rw A d) {l : Nat} (h0 : l < A.L) {K : Value → Prop} : q_on (o_get 2 1 (S0, d, w) (.ref (51 + l))) K ↔ K (.int (nI (A.pow l))) := by
  have oF := hO.F; have oL := hO.L; have oH := hO.H; have oK := hO.K; have oT := hO.T; have oB := hO.B
  rw [← hR.pow l h0]
  exact px_of (g_lamp_1 (by omega))
theorem kW_room {A : q_A} {d : Nat → Nat → Int32} {w : Nat → Nat → Int64} (hO : q_Ok A) (hR : q_Rw A d) {l : Nat} (h0 : l < A.L) {K : Value → Prop} : q_on (o_get 2 2 (S0, d, w) (.ref (51 + l))) K ↔ K (.int (nI (A.room l))) := by
  have oF := hO.F; have oL := hO.L; have oH := hO.H; have oK := hO.K; have oT := hO.T; have oB := hO.B
  rw [← hR.room l h0]
  exact px_of (g_lamp_2 (by omega))
theorem kW_sx {A : q_A} {d : Nat → Nat → Int32} {w : Nat → Nat → Int64} (hO : q_Ok A) (hR : q_Rw A d) {l : Nat} (h0 : l < A.L) {K : Value → Prop} : q_on (o_get 2 3 (S0, d, w) (.ref (51 + l))) K ↔ K (.int (nI (A.sx l))) := by
  have oF := hO.F; have oL := hO.L; have oH := hO.H; have oK := hO.K; have oT := hO.T; have oB := hO.B
  rw [← hR.sx l h0]
  exact px_of (g_lamp_3 (by omega))
theorem kW_sy {A : q_A} {d : Nat → Nat → Int32} {w : Nat → Nat → Int64} (hO : q_Ok A) (hR : q_Rw A d) {l : Nat} (h0 : l < A.L) {K : Value → Prop} : q_on (o_get 2 4 (S0, d, w) (.ref (51 + l))) K ↔ K (.int (nI (A.sy l))) := by
  have oF := hO.F; have oL := hO.L; have oH := hO.H; have oK := hO.K; have oT := hO.T; have oB := hO.B
  rw [← hR.sy l h0]
  exact px_of (g_lamp_4 (by omega))
theorem kW_more {A : q_A} {d : Nat → Nat → Int32} {w : Nat → Nat → Int64} (hO : q_Ok A) (hR : q_Rw A d) {l : Nat} (h0 : l < A.L) {K : Value → Prop} : q_on (o_get 2 5 (S0, d, w) (.ref (51 + l))) K ↔ K (.int (nI (A.more l))) := by
  have oF := hO.F; have oL := hO.L; have oH := hO.H; have oK := hO.K; have oT := hO.T; have oB := hO.B
  rw [← hR.more l h0]
  exact px_of (g_lamp_5 (by omega))
theorem kW_fed {A : q_A} {d : Nat → Nat → Int32} {w : Nat → Nat → Int64} (hO : q_Ok A) (hR : q_Rw A d) {h l : Nat} (h0 : h < A.H) (h1 : l < A.L) {K : Value → Prop} : q_on (o_iald (S0, d, w) (.ref (62 + 3 * h)) (.int (nI (l)))) K ↔ K (.int (nI (A.fed h l))) := by
  have oF := hO.F; have oL := hO.L; have oH := hO.H; have oK := hO.K; have oT := hO.T; have oB := hO.B
  rw [← hR.fed h l h0 h1]
  exact px_of (al_fuseOf (by omega) (by omega))
theorem kW_feeds {A : q_A} {d : Nat → Nat → Int32} {w : Nat → Nat → Int64} (hO : q_Ok A) (hR : q_Rw A d) {h f : Nat} (h0 : h < A.H) (h1 : f < 6) {K : Value → Prop} : q_on (o_iald (S0, d, w) (.ref (63 + 3 * h)) (.int (nI (f)))) K ↔ K (.int (q_bits A.L (fun l => decide (A.fed h l = f)))) := by
  have oF := hO.F; have oL := hO.L; have oH := hO.H; have oK := hO.K; have oT := hO.T; have oB := hO.B
  rw [← hR.feeds h f h0 h1]
  exact px_of (al_feeds (by omega) (by omega))
theorem kW_lab {A : q_A} {d : Nat → Nat → Int32} {w : Nat → Nat → Int64} (hO : q_Ok A) (hR : q_Rw A d) {k l : Nat} (h0 : k < A.K) (h1 : l < A.L) {K : Value → Prop} : q_on (o_iald (S0, d, w) (.ref (98 + 3 * k)) (.int (nI (l)))) K ↔ K (.int (nI (A.lab k l))) := by
  have oF := hO.F; have oL := hO.L; have oH := hO.H; have oK := hO.K; have oT := hO.T; have oB := hO.B
  rw [← hR.lab k l h0 h1]
  exact px_of (al_lfuseOf (by omega) (by omega))
theorem kW_year {A : q_A} {d : Nat → Nat → Int32} {w : Nat → Nat → Int64} (hO : q_Ok A) (hR : q_Rw A d) {k : Nat} (h0 : k < A.K) {K : Value → Prop} : q_on (o_get 9 2 (S0, d, w) (.ref (97 + 3 * k))) K ↔ K (.int (A.year k)) := by
  have oF := hO.F; have oL := hO.L; have oH := hO.H; have oK := hO.K; have oT := hO.T; have oB := hO.B
  rw [← hR.year k h0]
  exact px_of (g_label_2 (by omega))
theorem kW_ao {A : q_A} {d : Nat → Nat → Int32} {w : Nat → Nat → Int64} (hO : q_Ok A) (hR : q_Rw A d) {k : Nat} (h0 : k < 10) {K : Value → Prop} : q_on (o_get 0 0 (S0, d, w) (.ref (10 + k))) K ↔ K (.int (A.ao k)) := by
  have oF := hO.F; have oL := hO.L; have oH := hO.H; have oK := hO.K; have oT := hO.T; have oB := hO.B
  rw [← hR.ao k h0]
  exact px_of (g_ask_0 (by omega))
theorem kW_an {A : q_A} {d : Nat → Nat → Int32} {w : Nat → Nat → Int64} (hO : q_Ok A) (hR : q_Rw A d) {k : Nat} (h0 : k < 10) {K : Value → Prop} : q_on (o_get 0 1 (S0, d, w) (.ref (10 + k))) K ↔ K (.int (A.an k)) := by
  have oF := hO.F; have oL := hO.L; have oH := hO.H; have oK := hO.K; have oT := hO.T; have oB := hO.B
  rw [← hR.an k h0]
  exact px_of (g_ask_1 (by omega))
theorem kW_ah {A : q_A} {d : Nat → Nat → Int32} {w : Nat → Nat → Int64} (hO : q_Ok A) (hR : q_Rw A d) {k : Nat} (h0 : k < 10) {K : Value → Prop} : q_on (o_get 0 2 (S0, d, w) (.ref (10 + k))) K ↔ K (.int (A.ah k)) := by
  have oF := hO.F; have oL := hO.L; have oH := hO.H; have oK := hO.K; have oT := hO.T; have oB := hO.B
  rw [← hR.ah k h0]
  exact px_of (g_ask_2 (by omega))
theorem kW_ar {A : q_A} {d : Nat → Nat → Int32} {w : Nat → Nat → Int64} (hO : q_Ok A) (hR : q_Rw A d) {k : Nat} (h0 : k < 10) {K : Value → Prop} : q_on (o_get 0 3 (S0, d, w) (.ref (10 + k))) K ↔ K (.int (A.ar k)) := by
  have oF := hO.F; have oL := hO.L; have oH := hO.H; have oK := hO.K; have oT := hO.T; have oB := hO.B
  rw [← hR.ar k h0]
  exact px_of (g_ask_3 (by omega))
theorem kW_az {A : q_A} {d : Nat → Nat → Int32} {w : Nat → Nat → Int64} (hO : q_Ok A) (hR : q_Rw A d) {k : Nat} (h0 : k < 10) {K : Value → Prop} : q_on (o_get 0 4 (S0, d, w) (.ref (10 + k))) K ↔ K (.int (A.az k)) := by
  have oF := hO.F; have oL := hO.L; have oH := hO.H; have oK := hO.K; have oT := hO.T; have oB := hO.B
  rw [← hR.az k h0]
  exact px_of (g_ask_4 (by omega))
theorem kW_io {A : q_A} {d : Nat → Nat → Int32} {w : Nat → Nat → Int64} (hO : q_Ok A) (hR : q_Rw A d) {k : Nat} (h0 : k < 10) {K : Value → Prop} : q_on (o_get 0 0 (S0, d, w) (.ref (23 + k))) K ↔ K (.int (A.io k)) := by
  have oF := hO.F; have oL := hO.L; have oH := hO.H; have oK := hO.K; have oT := hO.T; have oB := hO.B
  rw [← hR.io k h0]
  exact px_of (g_kask_0 (by omega))
theorem kW_inn {A : q_A} {d : Nat → Nat → Int32} {w : Nat → Nat → Int64} (hO : q_Ok A) (hR : q_Rw A d) {k : Nat} (h0 : k < 10) {K : Value → Prop} : q_on (o_get 0 1 (S0, d, w) (.ref (23 + k))) K ↔ K (.int (A.inn k)) := by
  have oF := hO.F; have oL := hO.L; have oH := hO.H; have oK := hO.K; have oT := hO.T; have oB := hO.B
  rw [← hR.inn k h0]
  exact px_of (g_kask_1 (by omega))
theorem kW_ih {A : q_A} {d : Nat → Nat → Int32} {w : Nat → Nat → Int64} (hO : q_Ok A) (hR : q_Rw A d) {k : Nat} (h0 : k < 10) {K : Value → Prop} : q_on (o_get 0 2 (S0, d, w) (.ref (23 + k))) K ↔ K (.int (A.ih k)) := by
  have oF := hO.F; have oL := hO.L; have oH := hO.H; have oK := hO.K; have oT := hO.T; have oB := hO.B
  rw [← hR.ih k h0]
  exact px_of (g_kask_2 (by omega))
theorem kW_ir {A : q_A} {d : Nat → Nat → Int32} {w : Nat → Nat → Int64} (hO : q_Ok A) (hR : q_Rw A d) {k : Nat} (h0 : k < 10) {K : Value → Prop} : q_on (o_get 0 3 (S0, d, w) (.ref (23 + k))) K ↔ K (.int (A.ir k)) := by
  have oF := hO.F; have oL := hO.L; have oH := hO.H; have oK := hO.K; have oT := hO.T; have oB := hO.B
  rw [← hR.ir k h0]
  exact px_of (g_kask_3 (by omega))
theorem kW_iz {A : q_A} {d : Nat → Nat → Int32} {w : Nat → Nat → Int64} (hO : q_Ok A) (hR : q_Rw A d) {k : Nat} (h0 : k < 10) {K : Value → Prop} : q_on (o_get 0 4 (S0, d, w) (.ref (23 + k))) K ↔ K (.int (A.iz k)) := by
  have oF := hO.F; have oL := hO.L; have oH := hO.H; have oK := hO.K; have oT := hO.T; have oB := hO.B
  rw [← hR.iz k h0]
  exact px_of (g_kask_4 (by omega))
theorem kW_ends {A : q_A} {d : Nat → Nat → Int32} {w : Nat → Nat → Int64} (hO : q_Ok A) (hR : q_Rw A d) {t p : Nat} (h0 : t < A.T) (h1 : p < 3) {K : Value → Prop} : q_on (o_iald (S0, d, w) (.ref (111 + 3 * t)) (.int (nI (p)))) K ↔ K (.int (nI (q_to (A.txt t) (p + 1)))) := by
  have oF := hO.F; have oL := hO.L; have oH := hO.H; have oK := hO.K; have oT := hO.T; have oB := hO.B
  rw [← hR.ends t p h0 h1]
  exact px_of (al_ends (by omega) (by omega))
theorem kW_sort {A : q_A} {d : Nat → Nat → Int32} {w : Nat → Nat → Int64} (hO : q_Ok A) (hR : q_Rw A d) {s : Nat} (h0 : s < 4) {K : Value → Prop} : q_on (o_get 6 1 (S0, d, w) (.ref (127 + 2 * s))) K ↔ K (.int (A.sort s)) := by
  have oF := hO.F; have oL := hO.L; have oH := hO.H; have oK := hO.K; have oT := hO.T; have oB := hO.B
  rw [← hR.sort s h0]
  exact px_of (g_sheet_1 (by omega))
theorem kW_size {A : q_A} {d : Nat → Nat → Int32} {w : Nat → Nat → Int64} (hO : q_Ok A) (hR : q_Rw A d) {s : Nat} (h0 : s < 4) {K : Value → Prop} : q_on (o_get 6 2 (S0, d, w) (.ref (127 + 2 * s))) K ↔ K (.int (nI (A.size s))) := by
  have oF := hO.F; have oL := hO.L; have oH := hO.H; have oK := hO.K; have oT := hO.T; have oB := hO.B
  rw [← hR.size s h0]
  exact px_of (g_sheet_2 (by omega))
theorem kW_cell {A : q_A} {d : Nat → Nat → Int32} {w : Nat → Nat → Int64} (hO : q_Ok A) (hR : q_Rw A d) {s i : Nat} (h0 : s < 4) (h1 : i < 40) {K : Value → Prop} : q_on (o_iald (S0, d, w) (.ref (128 + 2 * s)) (.int (nI (i)))) K ↔ K (.int (A.cell s i)) := by
  have oF := hO.F; have oL := hO.L; have oH := hO.H; have oK := hO.K; have oT := hO.T; have oB := hO.B
  rw [← hR.cell s i h0 h1]
  exact px_of (al_cells (by omega) (by omega))
theorem kR_out {A : q_A} {d : Nat → Nat → Int32} {w : Nat → Nat → Int64} (hO : q_Ok A) (hR : q_Rr A d) {K : Value → Prop} : q_on (o_get 11 0 (S0, d, w) (.ref (135))) K ↔ K (.int (A.out)) := by
  have oF := hO.F; have oL := hO.L; have oH := hO.H; have oK := hO.K; have oT := hO.T; have oB := hO.B
  rw [← hR.out ]
  exact px_of (g_m_0 )
theorem kR_on {A : q_A} {d : Nat → Nat → Int32} {w : Nat → Nat → Int64} (hO : q_Ok A) (hR : q_Rr A d) {K : Value → Prop} : q_on (o_get 11 1 (S0, d, w) (.ref (135))) K ↔ K (.int (A.on)) := by
  have oF := hO.F; have oL := hO.L; have oH := hO.H; have oK := hO.K; have oT := hO.T; have oB := hO.B
  rw [← hR.on ]
  exact px_of (g_m_1 )
theorem kR_hour {A : q_A} {d : Nat → Nat → Int32} {w : Nat → Nat → Int64} (hO : q_Ok A) (hR : q_Rr A d) {K : Value → Prop} : q_on (o_get 11 2 (S0, d, w) (.ref (135))) K ↔ K (.int (A.hour)) := by
  have oF := hO.F; have oL := hO.L; have oH := hO.H; have oK := hO.K; have oT := hO.T; have oB := hO.B
  rw [← hR.hour ]
  exact px_of (g_m_2 )
theorem kR_slips {A : q_A} {d : Nat → Nat → Int32} {w : Nat → Nat → Int64} (hO : q_Ok A) (hR : q_Rr A d) {K : Value → Prop} : q_on (o_get 11 3 (S0, d, w) (.ref (135))) K ↔ K (.int (A.slips)) := by
  have oF := hO.F; have oL := hO.L; have oH := hO.H; have oK := hO.K; have oT := hO.T; have oB := hO.B
  rw [← hR.slips ]
  exact px_of (g_m_3 )
theorem kR_F {A : q_A} {d : Nat → Nat → Int32} {w : Nat → Nat → Int64} (hO : q_Ok A) (hR : q_Rr A d) {K : Value → Prop} : q_on (o_get 11 4 (S0, d, w) (.ref (135))) K ↔ K (.int (nI A.F)) := by
  have oF := hO.F; have oL := hO.L; have oH := hO.H; have oK := hO.K; have oT := hO.T; have oB := hO.B
  rw [← hR.F ]
  exact px_of (g_m_4 )
theorem kR_L {A : q_A} {d : Nat → Nat → Int32} {w : Nat → Nat → Int64} (hO : q_Ok A) (hR : q_Rr A d) {K : Value → Prop} : q_on (o_get 11 7 (S0, d, w) (.ref (135))) K ↔ K (.int (nI A.L)) := by
  have oF := hO.F; have oL := hO.L; have oH := hO.H; have oK := hO.K; have oT := hO.T; have oB := hO.B
  rw [← hR.L ]
  exact px_of (g_m_7 )
theorem kR_H {A : q_A} {d : Nat → Nat → Int32} {w : Nat → Nat → Int64} (hO : q_Ok A) (hR : q_Rr A d) {K : Value → Prop} : q_on (o_get 11 14 (S0, d, w) (.ref (135))) K ↔ K (.int (nI A.H)) := by
  have oF := hO.F; have oL := hO.L; have oH := hO.H; have oK := hO.K; have oT := hO.T; have oB := hO.B
  rw [← hR.H ]
  exact px_of (g_m_14 )
theorem kR_N {A : q_A} {d : Nat → Nat → Int32} {w : Nat → Nat → Int64} (hO : q_Ok A) (hR : q_Rr A d) {K : Value → Prop} : q_on (o_get 11 16 (S0, d, w) (.ref (135))) K ↔ K (.int (nI A.N)) := by
  have oF := hO.F; have oL := hO.L; have oH := hO.H; have oK := hO.K; have oT := hO.T; have oB := hO.B
  rw [← hR.N ]
  exact px_of (g_m_16 )
theorem kR_K {A : q_A} {d : Nat → Nat → Int32} {w : Nat → Nat → Int64} (hO : q_Ok A) (hR : q_Rr A d) {K : Value → Prop} : q_on (o_get 11 22 (S0, d, w) (.ref (135))) K ↔ K (.int (nI A.K)) := by
  have oF := hO.F; have oL := hO.L; have oH := hO.H; have oK := hO.K; have oT := hO.T; have oB := hO.B
  rw [← hR.K ]
  exact px_of (g_m_22 )
theorem kR_B {A : q_A} {d : Nat → Nat → Int32} {w : Nat → Nat → Int64} (hO : q_Ok A) (hR : q_Rr A d) {K : Value → Prop} : q_on (o_get 11 26 (S0, d, w) (.ref (135))) K ↔ K (.int (nI A.B)) := by
  have oF := hO.F; have oL := hO.L; have oH := hO.H; have oK := hO.K; have oT := hO.T; have oB := hO.B
  rw [← hR.B ]
  exact px_of (g_m_26 )
theorem kR_T {A : q_A} {d : Nat → Nat → Int32} {w : Nat → Nat → Int64} (hO : q_Ok A) (hR : q_Rr A d) {K : Value → Prop} : q_on (o_get 11 29 (S0, d, w) (.ref (135))) K ↔ K (.int (nI A.T)) := by
  have oF := hO.F; have oL := hO.L; have oH := hO.H; have oK := hO.K; have oT := hO.T; have oB := hO.B
  rw [← hR.T ]
  exact px_of (g_m_29 )
theorem kR_law {A : q_A} {d : Nat → Nat → Int32} {w : Nat → Nat → Int64} (hO : q_Ok A) (hR : q_Rr A d) {K : Value → Prop} : q_on (o_get 11 30 (S0, d, w) (.ref (135))) K ↔ K (.int (nI A.law)) := by
  have oF := hO.F; have oL := hO.L; have oH := hO.H; have oK := hO.K; have oT := hO.T; have oB := hO.B
  rw [← hR.law ]
  exact px_of (g_m_30 )
theorem kR_img {A : q_A} {d : Nat → Nat → Int32} {w : Nat → Nat → Int64} (hO : q_Ok A) (hR : q_Rr A d) {K : Value → Prop} : q_on (o_get 11 31 (S0, d, w) (.ref (135))) K ↔ K (.int (nI A.img)) := by
  have oF := hO.F; have oL := hO.L; have oH := hO.H; have oK := hO.K; have oT := hO.T; have oB := hO.B
  rw [← hR.img ]
  exact px_of (g_m_31 )
theorem kR_iout {A : q_A} {d : Nat → Nat → Int32} {w : Nat → Nat → Int64} (hO : q_Ok A) (hR : q_Rr A d) {K : Value → Prop} : q_on (o_get 11 32 (S0, d, w) (.ref (135))) K ↔ K (.int (A.iout)) := by
  have oF := hO.F; have oL := hO.L; have oH := hO.H; have oK := hO.K; have oT := hO.T; have oB := hO.B
  rw [← hR.iout ]
  exact px_of (g_m_32 )
theorem kR_ion {A : q_A} {d : Nat → Nat → Int32} {w : Nat → Nat → Int64} (hO : q_Ok A) (hR : q_Rr A d) {K : Value → Prop} : q_on (o_get 11 33 (S0, d, w) (.ref (135))) K ↔ K (.int (A.ion)) := by
  have oF := hO.F; have oL := hO.L; have oH := hO.H; have oK := hO.K; have oT := hO.T; have oB := hO.B
  rw [← hR.ion ]
  exact px_of (g_m_33 )
theorem kR_ihour {A : q_A} {d : Nat → Nat → Int32} {w : Nat → Nat → Int64} (hO : q_Ok A) (hR : q_Rr A d) {K : Value → Prop} : q_on (o_get 11 34 (S0, d, w) (.ref (135))) K ↔ K (.int (A.ihour)) := by
  have oF := hO.F; have oL := hO.L; have oH := hO.H; have oK := hO.K; have oT := hO.T; have oB := hO.B
  rw [← hR.ihour ]
  exact px_of (g_m_34 )
theorem kR_islips {A : q_A} {d : Nat → Nat → Int32} {w : Nat → Nat → Int64} (hO : q_Ok A) (hR : q_Rr A d) {K : Value → Prop} : q_on (o_get 11 35 (S0, d, w) (.ref (135))) K ↔ K (.int (A.islips)) := by
  have oF := hO.F; have oL := hO.L; have oH := hO.H; have oK := hO.K; have oT := hO.T; have oB := hO.B
  rw [← hR.islips ]
  exact px_of (g_m_35 )
theorem kR_iN {A : q_A} {d : Nat → Nat → Int32} {w : Nat → Nat → Int64} (hO : q_Ok A) (hR : q_Rr A d) {K : Value → Prop} : q_on (o_get 11 36 (S0, d, w) (.ref (135))) K ↔ K (.int (nI A.iN)) := by
  have oF := hO.F; have oL := hO.L; have oH := hO.H; have oK := hO.K; have oT := hO.T; have oB := hO.B
  rw [← hR.iN ]
  exact px_of (g_m_36 )
theorem kR_ilaw {A : q_A} {d : Nat → Nat → Int32} {w : Nat → Nat → Int64} (hO : q_Ok A) (hR : q_Rr A d) {K : Value → Prop} : q_on (o_get 11 37 (S0, d, w) (.ref (135))) K ↔ K (.int (nI A.ilaw)) := by
  have oF := hO.F; have oL := hO.L; have oH := hO.H; have oK := hO.K; have oT := hO.T; have oB := hO.B
  rw [← hR.ilaw ]
  exact px_of (g_m_37 )
theorem kR_bears {A : q_A} {d : Nat → Nat → Int32} {w : Nat → Nat → Int64} (hO : q_Ok A) (hR : q_Rr A d) {i : Nat} (h0 : i < A.F) {K : Value → Prop} : q_on (o_iald (S0, d, w) (.ref (136)) (.int (nI (i)))) K ↔ K (.int (A.bears i)) := by
  have oF := hO.F; have oL := hO.L; have oH := hO.H; have oK := hO.K; have oT := hO.T; have oB := hO.B
  rw [← hR.bears i h0]
  exact px_of (al_rbears (by omega))
theorem kR_times {A : q_A} {d : Nat → Nat → Int32} {w : Nat → Nat → Int64} (hO : q_Ok A) (hR : q_Rr A d) {i : Nat} (h0 : i < A.F) {K : Value → Prop} : q_on (o_iald (S0, d, w) (.ref (137)) (.int (nI (i)))) K ↔ K (.int (A.times i)) := by
  have oF := hO.F; have oL := hO.L; have oH := hO.H; have oK := hO.K; have oT := hO.T; have oB := hO.B
  rw [← hR.times i h0]
  exact px_of (al_rtimes (by omega))
theorem kR_kind {A : q_A} {d : Nat → Nat → Int32} {w : Nat → Nat → Int64} (hO : q_Ok A) (hR : q_Rr A d) {l : Nat} (h0 : l < A.L) {K : Value → Prop} : q_on (o_iald (S0, d, w) (.ref (138)) (.int (nI (l)))) K ↔ K (.int (nI (A.kind l))) := by
  have oF := hO.F; have oL := hO.L; have oH := hO.H; have oK := hO.K; have oT := hO.T; have oB := hO.B
  rw [← hR.kind l h0]
  exact px_of (al_rkind (by omega))
theorem kR_pow {A : q_A} {d : Nat → Nat → Int32} {w : Nat → Nat → Int64} (hO : q_Ok A) (hR : q_Rr A d) {l : Nat} (h0 : l < A.L) {K : Value → Prop} : q_on (o_iald (S0, d, w) (.ref (139)) (.int (nI (l)))) K ↔ K (.int (nI (A.pow l))) := by
  have oF := hO.F; have oL := hO.L; have oH := hO.H; have oK := hO.K; have oT := hO.T; have oB := hO.B
  rw [← hR.pow l h0]
  exact px_of (al_rpower (by omega))
theorem kR_room {A : q_A} {d : Nat → Nat → Int32} {w : Nat → Nat → Int64} (hO : q_Ok A) (hR : q_Rr A d) {l : Nat} (h0 : l < A.L) {K : Value → Prop} : q_on (o_iald (S0, d, w) (.ref (140)) (.int (nI (l)))) K ↔ K (.int (nI (A.room l))) := by
  have oF := hO.F; have oL := hO.L; have oH := hO.H; have oK := hO.K; have oT := hO.T; have oB := hO.B
  rw [← hR.room l h0]
  exact px_of (al_rroomOf (by omega))
theorem kR_sx {A : q_A} {d : Nat → Nat → Int32} {w : Nat → Nat → Int64} (hO : q_Ok A) (hR : q_Rr A d) {l : Nat} (h0 : l < A.L) {K : Value → Prop} : q_on (o_iald (S0, d, w) (.ref (141)) (.int (nI (l)))) K ↔ K (.int (nI (A.sx l))) := by
  have oF := hO.F; have oL := hO.L; have oH := hO.H; have oK := hO.K; have oT := hO.T; have oB := hO.B
  rw [← hR.sx l h0]
  exact px_of (al_rswitchX (by omega))
theorem kR_sy {A : q_A} {d : Nat → Nat → Int32} {w : Nat → Nat → Int64} (hO : q_Ok A) (hR : q_Rr A d) {l : Nat} (h0 : l < A.L) {K : Value → Prop} : q_on (o_iald (S0, d, w) (.ref (142)) (.int (nI (l)))) K ↔ K (.int (nI (A.sy l))) := by
  have oF := hO.F; have oL := hO.L; have oH := hO.H; have oK := hO.K; have oT := hO.T; have oB := hO.B
  rw [← hR.sy l h0]
  exact px_of (al_rswitchY (by omega))
theorem kR_more {A : q_A} {d : Nat → Nat → Int32} {w : Nat → Nat → Int64} (hO : q_Ok A) (hR : q_Rr A d) {l : Nat} (h0 : l < A.L) {K : Value → Prop} : q_on (o_iald (S0, d, w) (.ref (143)) (.int (nI (l)))) K ↔ K (.int (nI (A.more l))) := by
  have oF := hO.F; have oL := hO.L; have oH := hO.H; have oK := hO.K; have oT := hO.T; have oB := hO.B
  rw [← hR.more l h0]
  exact px_of (al_rmore (by omega))
theorem kR_fed {A : q_A} {d : Nat → Nat → Int32} {w : Nat → Nat → Int64} (hO : q_Ok A) (hR : q_Rr A d) {h l : Nat} (h0 : h < A.H) (h1 : l < A.L) {K : Value → Prop} : q_on (o_iald (S0, d, w) (.ref (144)) (.int (nI (10 * h + l)))) K ↔ K (.int (nI (A.fed h l))) := by
  have oF := hO.F; have oL := hO.L; have oH := hO.H; have oK := hO.K; have oT := hO.T; have oB := hO.B
  rw [← hR.fed h l h0 h1]
  exact px_of (al_rfed (by omega))
theorem kR_ao {A : q_A} {d : Nat → Nat → Int32} {w : Nat → Nat → Int64} (hO : q_Ok A) (hR : q_Rr A d) {k : Nat} (h0 : k < 10) {K : Value → Prop} : q_on (o_iald (S0, d, w) (.ref (145)) (.int (nI (k)))) K ↔ K (.int (A.ao k)) := by
  have oF := hO.F; have oL := hO.L; have oH := hO.H; have oK := hO.K; have oT := hO.T; have oB := hO.B
  rw [← hR.ao k h0]
  exact px_of (al_raskOuts (by omega))
theorem kR_an {A : q_A} {d : Nat → Nat → Int32} {w : Nat → Nat → Int64} (hO : q_Ok A) (hR : q_Rr A d) {k : Nat} (h0 : k < 10) {K : Value → Prop} : q_on (o_iald (S0, d, w) (.ref (146)) (.int (nI (k)))) K ↔ K (.int (A.an k)) := by
  have oF := hO.F; have oL := hO.L; have oH := hO.H; have oK := hO.K; have oT := hO.T; have oB := hO.B
  rw [← hR.an k h0]
  exact px_of (al_raskOns (by omega))
theorem kR_ah {A : q_A} {d : Nat → Nat → Int32} {w : Nat → Nat → Int64} (hO : q_Ok A) (hR : q_Rr A d) {k : Nat} (h0 : k < 10) {K : Value → Prop} : q_on (o_iald (S0, d, w) (.ref (147)) (.int (nI (k)))) K ↔ K (.int (A.ah k)) := by
  have oF := hO.F; have oL := hO.L; have oH := hO.H; have oK := hO.K; have oT := hO.T; have oB := hO.B
  rw [← hR.ah k h0]
  exact px_of (al_raskHour (by omega))
theorem kR_ar {A : q_A} {d : Nat → Nat → Int32} {w : Nat → Nat → Int64} (hO : q_Ok A) (hR : q_Rr A d) {k : Nat} (h0 : k < 10) {K : Value → Prop} : q_on (o_iald (S0, d, w) (.ref (148)) (.int (nI (k)))) K ↔ K (.int (A.ar k)) := by
  have oF := hO.F; have oL := hO.L; have oH := hO.H; have oK := hO.K; have oT := hO.T; have oB := hO.B
  rw [← hR.ar k h0]
  exact px_of (al_raskRooms (by omega))
theorem kR_az {A : q_A} {d : Nat → Nat → Int32} {w : Nat → Nat → Int64} (hO : q_Ok A) (hR : q_Rr A d) {k : Nat} (h0 : k < 10) {K : Value → Prop} : q_on (o_iald (S0, d, w) (.ref (149)) (.int (nI (k)))) K ↔ K (.int (A.az k)) := by
  have oF := hO.F; have oL := hO.L; have oH := hO.H; have oK := hO.K; have oT := hO.T; have oB := hO.B
  rw [← hR.az k h0]
  exact px_of (al_raskSeen (by omega))
theorem kR_year {A : q_A} {d : Nat → Nat → Int32} {w : Nat → Nat → Int64} (hO : q_Ok A) (hR : q_Rr A d) {k : Nat} (h0 : k < A.K) {K : Value → Prop} : q_on (o_iald (S0, d, w) (.ref (150)) (.int (nI (k)))) K ↔ K (.int (A.year k)) := by
  have oF := hO.F; have oL := hO.L; have oH := hO.H; have oK := hO.K; have oT := hO.T; have oB := hO.B
  rw [← hR.year k h0]
  exact px_of (al_ryears (by omega))
theorem kR_lab {A : q_A} {d : Nat → Nat → Int32} {w : Nat → Nat → Int64} (hO : q_Ok A) (hR : q_Rr A d) {k l : Nat} (h0 : k < A.K) (h1 : l < A.L) {K : Value → Prop} : q_on (o_iald (S0, d, w) (.ref (151)) (.int (nI (10 * k + l)))) K ↔ K (.int (nI (A.lab k l))) := by
  have oF := hO.F; have oL := hO.L; have oH := hO.H; have oK := hO.K; have oT := hO.T; have oB := hO.B
  rw [← hR.lab k l h0 h1]
  exact px_of (al_rlabelled (by omega))
theorem kR_tape {A : q_A} {d : Nat → Nat → Int32} {w : Nat → Nat → Int64} (hO : q_Ok A) (hR : q_Rr A d) {i : Nat} (h0 : i < A.B) {K : Value → Prop} : q_on (o_iald (S0, d, w) (.ref (152)) (.int (nI (i)))) K ↔ K (.int (A.tape i)) := by
  have oF := hO.F; have oL := hO.L; have oH := hO.H; have oK := hO.K; have oT := hO.T; have oB := hO.B
  rw [← hR.tape i h0]
  exact px_of (al_rtape (by omega))
theorem kR_io {A : q_A} {d : Nat → Nat → Int32} {w : Nat → Nat → Int64} (hO : q_Ok A) (hR : q_Rr A d) {k : Nat} (h0 : k < 10) {K : Value → Prop} : q_on (o_iald (S0, d, w) (.ref (155)) (.int (nI (k)))) K ↔ K (.int (A.io k)) := by
  have oF := hO.F; have oL := hO.L; have oH := hO.H; have oK := hO.K; have oT := hO.T; have oB := hO.B
  rw [← hR.io k h0]
  exact px_of (al_rimageAskOuts (by omega))
theorem kR_inn {A : q_A} {d : Nat → Nat → Int32} {w : Nat → Nat → Int64} (hO : q_Ok A) (hR : q_Rr A d) {k : Nat} (h0 : k < 10) {K : Value → Prop} : q_on (o_iald (S0, d, w) (.ref (156)) (.int (nI (k)))) K ↔ K (.int (A.inn k)) := by
  have oF := hO.F; have oL := hO.L; have oH := hO.H; have oK := hO.K; have oT := hO.T; have oB := hO.B
  rw [← hR.inn k h0]
  exact px_of (al_rimageAskOns (by omega))
theorem kR_ih {A : q_A} {d : Nat → Nat → Int32} {w : Nat → Nat → Int64} (hO : q_Ok A) (hR : q_Rr A d) {k : Nat} (h0 : k < 10) {K : Value → Prop} : q_on (o_iald (S0, d, w) (.ref (157)) (.int (nI (k)))) K ↔ K (.int (A.ih k)) := by
  have oF := hO.F; have oL := hO.L; have oH := hO.H; have oK := hO.K; have oT := hO.T; have oB := hO.B
  rw [← hR.ih k h0]
  exact px_of (al_rimageAskHour (by omega))
theorem kR_ir {A : q_A} {d : Nat → Nat → Int32} {w : Nat → Nat → Int64} (hO : q_Ok A) (hR : q_Rr A d) {k : Nat} (h0 : k < 10) {K : Value → Prop} : q_on (o_iald (S0, d, w) (.ref (158)) (.int (nI (k)))) K ↔ K (.int (A.ir k)) := by
  have oF := hO.F; have oL := hO.L; have oH := hO.H; have oK := hO.K; have oT := hO.T; have oB := hO.B
  rw [← hR.ir k h0]
  exact px_of (al_rimageAskRooms (by omega))
theorem kR_iz {A : q_A} {d : Nat → Nat → Int32} {w : Nat → Nat → Int64} (hO : q_Ok A) (hR : q_Rr A d) {k : Nat} (h0 : k < 10) {K : Value → Prop} : q_on (o_iald (S0, d, w) (.ref (159)) (.int (nI (k)))) K ↔ K (.int (A.iz k)) := by
  have oF := hO.F; have oL := hO.L; have oH := hO.H; have oK := hO.K; have oT := hO.T; have oB := hO.B
  rw [← hR.iz k h0]
  exact px_of (al_rimageAskSeen (by omega))
theorem kR_sort {A : q_A} {d : Nat → Nat → Int32} {w : Nat → Nat → Int64} (hO : q_Ok A) (hR : q_Rr A d) {s : Nat} (h0 : s < 4) {K : Value → Prop} : q_on (o_iald (S0, d, w) (.ref (160)) (.int (nI (s)))) K ↔ K (.int (A.sort s)) := by
  have oF := hO.F; have oL := hO.L; have oH := hO.H; have oK := hO.K; have oT := hO.T; have oB := hO.B
  rw [← hR.sort s h0]
  exact px_of (al_rsheetSort (by omega))
theorem kR_size {A : q_A} {d : Nat → Nat → Int32} {w : Nat → Nat → Int64} (hO : q_Ok A) (hR : q_Rr A d) {s : Nat} (h0 : s < 4) {K : Value → Prop} : q_on (o_iald (S0, d, w) (.ref (161)) (.int (nI (s)))) K ↔ K (.int (nI (A.size s))) := by
  have oF := hO.F; have oL := hO.L; have oH := hO.H; have oK := hO.K; have oT := hO.T; have oB := hO.B
  rw [← hR.size s h0]
  exact px_of (al_rsheetSize (by omega))
theorem kR_cell {A : q_A} {d : Nat → Nat → Int32} {w : Nat → Nat → Int64} (hO : q_Ok A) (hR : q_Rr A d) {s i : Nat} (h0 : s < 4) (h1 : i < 40) {K : Value → Prop} : q_on (o_iald (S0, d, w) (.ref (162)) (.int (nI (40 * s + i)))) K ↔ K (.int (A.cell s i)) := by
  have oF := hO.F; have oL := hO.L; have oH := hO.H; have oK := hO.K; have oT := hO.T; have oB := hO.B
  rw [← hR.cell s i h0 h1]
  exact px_of (al_rcells (by omega))
theorem px_g_m_46 {d : Nat → Nat → Int32} {w : Nat → Nat → Int64} {K : Value → Prop} : q_on (o_get 11 46 (S0, d, w) (.ref (135))) K ↔ K (.int (d (135) 46)) := px_of (g_m_46 )
theorem px_g_m_47 {d : Nat → Nat → Int32} {w : Nat → Nat → Int64} {K : Value → Prop} : q_on (o_get 11 47 (S0, d, w) (.ref (135))) K ↔ K (.int (d (135) 47)) := px_of (g_m_47 )
theorem px_g_m_48 {d : Nat → Nat → Int32} {w : Nat → Nat → Int64} {K : Value → Prop} : q_on (o_get 11 48 (S0, d, w) (.ref (135))) K ↔ K (.int (d (135) 48)) := px_of (g_m_48 )
theorem px_g_m_49 {d : Nat → Nat → Int32} {w : Nat → Nat → Int64} {K : Value → Prop} : q_on (o_get 11 49 (S0, d, w) (.ref (135))) K ↔ K (.int (d (135) 49)) := px_of (g_m_49 )
theorem px_g_m_52 {d : Nat → Nat → Int32} {w : Nat → Nat → Int64} {K : Value → Prop} : q_on (o_get 11 52 (S0, d, w) (.ref (135))) K ↔ K (.int (d (135) 52)) := px_of (g_m_52 )
theorem px_g_m_53 {d : Nat → Nat → Int32} {w : Nat → Nat → Int64} {K : Value → Prop} : q_on (o_get 11 53 (S0, d, w) (.ref (135))) K ↔ K (.int (d (135) 53)) := px_of (g_m_53 )
theorem px_g_m_54 {d : Nat → Nat → Int32} {w : Nat → Nat → Int64} {K : Value → Prop} : q_on (o_get 11 54 (S0, d, w) (.ref (135))) K ↔ K (.int (d (135) 54)) := px_of (g_m_54 )
theorem px_g_m_58 {d : Nat → Nat → Int32} {w : Nat → Nat → Int64} {K : Value → Prop} : q_on (o_get 11 58 (S0, d, w) (.ref (135))) K ↔ K (.int (d (135) 58)) := px_of (g_m_58 )
theorem px_g_reader_2 {d : Nat → Nat → Int32} {w : Nat → Nat → Int64} {K : Value → Prop} : q_on (o_get 5 2 (S0, d, w) (.ref (33))) K ↔ K (.int (d (33) 2)) := px_of (g_reader_2 )
theorem px_g_reader_3 {d : Nat → Nat → Int32} {w : Nat → Nat → Int64} {K : Value → Prop} : q_on (o_get 5 3 (S0, d, w) (.ref (33))) K ↔ K (.int (d (33) 3)) := px_of (g_reader_3 )
theorem px_g_reader_4 {d : Nat → Nat → Int32} {w : Nat → Nat → Int64} {K : Value → Prop} : q_on (o_get 5 4 (S0, d, w) (.ref (33))) K ↔ K (.int (d (33) 4)) := px_of (g_reader_4 )
theorem px_g_reader_5 {d : Nat → Nat → Int32} {w : Nat → Nat → Int64} {K : Value → Prop} : q_on (o_get 5 5 (S0, d, w) (.ref (33))) K ↔ K (.int (d (33) 5)) := px_of (g_reader_5 )
theorem px_g_draft_2 {d : Nat → Nat → Int32} {w : Nat → Nat → Int64} {K : Value → Prop} : q_on (o_get 8 2 (S0, d, w) (.ref (35))) K ↔ K (.int (d (35) 2)) := px_of (g_draft_2 )
theorem px_g_draft_3 {d : Nat → Nat → Int32} {w : Nat → Nat → Int64} {K : Value → Prop} : q_on (o_get 8 3 (S0, d, w) (.ref (35))) K ↔ K (.int (d (35) 3)) := px_of (g_draft_3 )
theorem px_g_mach_2 {d : Nat → Nat → Int32} {w : Nat → Nat → Int64} {K : Value → Prop} : q_on (o_get 3 2 (S0, d, w) (.ref (38))) K ↔ K (.int (d (38) 2)) := px_of (g_mach_2 )
theorem px_g_house_2 {d : Nat → Nat → Int32} {w : Nat → Nat → Int64} {i : Nat} (hi : i < 12) {K : Value → Prop} : q_on (o_get 9 2 (S0, d, w) (.ref (61 + 3 * i))) K ↔ K (.int (d (61 + 3 * i) 2)) := px_of (g_house_2 hi)
theorem px_g_text_2 {d : Nat → Nat → Int32} {w : Nat → Nat → Int64} {i : Nat} (hi : i < 6) {K : Value → Prop} : q_on (o_get 8 2 (S0, d, w) (.ref (109 + 3 * i))) K ↔ K (.int (d (109 + 3 * i) 2)) := px_of (g_text_2 hi)
theorem px_g_text_3 {d : Nat → Nat → Int32} {w : Nat → Nat → Int64} {i : Nat} (hi : i < 6) {K : Value → Prop} : q_on (o_get 8 3 (S0, d, w) (.ref (109 + 3 * i))) K ↔ K (.int (d (109 + 3 * i) 3)) := px_of (g_text_3 hi)
theorem px_al_dsteps {d : Nat → Nat → Int32} {w : Nat → Nat → Int64} {j : Nat} (hj : j < 160) {K : Value → Prop} : q_on (o_iald (S0, d, w) (.ref (36)) (.int (nI j))) K ↔ K (.int (d (36) j)) := px_of (al_dsteps hj)
theorem px_al_dends {d : Nat → Nat → Int32} {w : Nat → Nat → Int64} {j : Nat} (hj : j < 3) {K : Value → Prop} : q_on (o_iald (S0, d, w) (.ref (37)) (.int (nI j))) K ↔ K (.int (d (37) j)) := px_of (al_dends hj)
theorem px_al_mnames {d : Nat → Nat → Int32} {w : Nat → Nat → Int64} {j : Nat} (hj : j < 6) {K : Value → Prop} : q_on (o_iald (S0, d, w) (.ref (39)) (.int (nI j))) K ↔ K (.int (d (39) j)) := px_of (al_mnames hj)
theorem px_al_mstack {d : Nat → Nat → Int32} {w : Nat → Nat → Int64} {j : Nat} (hj : j < 160) {K : Value → Prop} : q_on (o_iald (S0, d, w) (.ref (40)) (.int (nI j))) K ↔ K (.int (d (40) j)) := px_of (al_mstack hj)
theorem px_al_shows {d : Nat → Nat → Int32} {w : Nat → Nat → Int64} {j : Nat} (hj : j < 768) {K : Value → Prop} : q_on (o_iald (S0, d, w) (.ref (43)) (.int (nI j))) K ↔ K (.int (d (43) j)) := px_of (al_shows hj)
theorem px_al_said {d : Nat → Nat → Int32} {w : Nat → Nat → Int64} {j : Nat} (hj : j < 110) {K : Value → Prop} : q_on (o_iald (S0, d, w) (.ref (44)) (.int (nI j))) K ↔ K (.int (d (44) j)) := px_of (al_said hj)
theorem px_al_lfeeds {d : Nat → Nat → Int32} {w : Nat → Nat → Int64} {j : Nat} {i : Nat} (hi : i < 4) (hj : j < 6) {K : Value → Prop} : q_on (o_iald (S0, d, w) (.ref (99 + 3 * i)) (.int (nI j))) K ↔ K (.int (d (99 + 3 * i) j)) := px_of (al_lfeeds hi hj)
theorem px_al_steps {d : Nat → Nat → Int32} {w : Nat → Nat → Int64} {j : Nat} {i : Nat} (hi : i < 6) (hj : j < 160) {K : Value → Prop} : q_on (o_iald (S0, d, w) (.ref (110 + 3 * i)) (.int (nI j))) K ↔ K (.int (d (110 + 3 * i) j)) := px_of (al_steps hi hj)
theorem px_al_rcodes {d : Nat → Nat → Int32} {w : Nat → Nat → Int64} {j : Nat} (hj : j < 1200) {K : Value → Prop} : q_on (o_iald (S0, d, w) (.ref (153)) (.int (nI j))) K ↔ K (.int (d (153) j)) := px_of (al_rcodes hj)
theorem px_al_rstarts {d : Nat → Nat → Int32} {w : Nat → Nat → Int64} {j : Nat} (hj : j < 24) {K : Value → Prop} : q_on (o_iald (S0, d, w) (.ref (154)) (.int (nI j))) K ↔ K (.int (d (154) j)) := px_of (al_rstarts hj)
theorem px_al_rheld {d : Nat → Nat → Int32} {w : Nat → Nat → Int64} {j : Nat} (hj : j < 200) {K : Value → Prop} : q_on (o_iald (S0, d, w) (.ref (164)) (.int (nI j))) K ↔ K (.int (d (164) j)) := px_of (al_rheld hj)
theorem px_al_rstack {d : Nat → Nat → Int32} {w : Nat → Nat → Int64} {j : Nat} (hj : j < 200) {K : Value → Prop} : q_on (o_iald (S0, d, w) (.ref (165)) (.int (nI j))) K ↔ K (.int (d (165) j)) := px_of (al_rstack hj)
theorem px_al_rnamed {d : Nat → Nat → Int32} {w : Nat → Nat → Int64} {j : Nat} (hj : j < 6) {K : Value → Prop} : q_on (o_iald (S0, d, w) (.ref (166)) (.int (nI j))) K ↔ K (.int (d (166) j)) := px_of (al_rnamed hj)
theorem px_al_rshown {d : Nat → Nat → Int32} {w : Nat → Nat → Int64} {j : Nat} (hj : j < 12) {K : Value → Prop} : q_on (o_iald (S0, d, w) (.ref (167)) (.int (nI j))) K ↔ K (.int (d (167) j)) := px_of (al_rshown hj)
theorem px_al_rgroups {d : Nat → Nat → Int32} {w : Nat → Nat → Int64} {j : Nat} (hj : j < 12) {K : Value → Prop} : q_on (o_iald (S0, d, w) (.ref (168)) (.int (nI j))) K ↔ K (.int (d (168) j)) := px_of (al_rgroups hj)
theorem px_al_rsumSeen {d : Nat → Nat → Int32} {w : Nat → Nat → Int64} {j : Nat} (hj : j < 1000) {K : Value → Prop} : q_on (o_iald (S0, d, w) (.ref (169)) (.int (nI j))) K ↔ K (.int (d (169) j)) := px_of (al_rsumSeen hj)
theorem px_al_rfeeds {d : Nat → Nat → Int32} {w : Nat → Nat → Int64} {j : Nat} (hj : j < 6) {K : Value → Prop} : q_on (o_iald (S0, d, w) (.ref (170)) (.int (nI j))) K ↔ K (.int (d (170) j)) := px_of (al_rfeeds hj)
theorem px_al_words {d : Nat → Nat → Int32} {w : Nat → Nat → Int64} {j : Nat} (hj : j < 16) {K : Value → Prop} : q_on (o_lald (S0, d, w) (.ref (42)) (.int (nI j))) K ↔ K (.long (w (42) j)) := px_of (al_words hj)
theorem px_al_rwords {d : Nat → Nat → Int32} {w : Nat → Nat → Int64} {j : Nat} (hj : j < 12) {K : Value → Prop} : q_on (o_lald (S0, d, w) (.ref (163)) (.int (nI j))) K ↔ K (.long (w (163) j)) := px_of (al_rwords hj)
