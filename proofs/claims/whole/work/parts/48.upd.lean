/-! CHANGES OF THE HOUSE, and what they ask of both sides (written by wip/gen/upd.py) -/
/-! fuse -/
def q_A.u_fuse (A : q_A) (a b : Int32) : q_A := (((A).setN 0 (fun _ _ => A.F + 1)).setI 4 (fun i _ => if i = A.F then a else A.bears i)).setI 5 (fun i _ => if i = A.F then b else A.times i)
theorem u_fuse_ok {A : q_A} {a b : Int32} (hO : q_Ok A) (hF : A.F < 6) : q_Ok (A.u_fuse a b) := by
  have oF := hO.F; have oL := hO.L; have oH := hO.H; have oN := hO.N; have oK := hO.K; have oT := hO.T; have oB := hO.B
  refine ⟨?_, ?_, ?_, ?_, ?_, ?_, ?_, ?_, ?_, ?_, ?_, ?_, ?_, ?_, ?_, ?_, ?_, ?_, ?_, ?_, ?_, ?_, ?_, ?_, ?_, ?_, ?_⟩
  · exact hF
  · exact hO.L
  · exact hO.H
  · exact hO.K
  · exact hO.T
  · exact hO.T0
  · exact hO.N
  · exact hO.B
  · exact hO.law
  · exact hO.iN
  · exact hO.ilaw
  · exact hO.img
  · exact hO.kind
  · exact hO.pow
  · exact hO.pow1
  · exact hO.room
  · exact hO.sx
  · exact hO.sy
  · exact hO.more
  · exact fun h l h0 h1 => Nat.lt_succ_of_lt (hO.fed h l h0 h1)
  · exact fun h l h0 h1 => Nat.lt_succ_of_lt (hO.lab h l h0 h1)
  · exact hO.size
  · exact hO.sort
  · exact hO.tape
  · exact hO.txt
  · exact hO.cok
  · exact hO.txl
theorem u_fuse_w {A : q_A} {a b : Int32} {d e2 : Nat → Nat → Int32} (hO : q_Ok A) (hR : q_Rw A d) (hF : A.F < 6) (e : ∀ o k, ¬ (o = 45 + A.F ∧ k ≤ 1) ∧ ¬ (o = 0 ∧ k = 13) → e2 o k = d o k) (n1 : e2 (45 + A.F) 0 = a) (n2 : e2 (45 + A.F) 1 = b) (n3 : e2 0 13 = nI (A.F + 1)) : q_Rw (A.u_fuse a b) e2 := by
  have oF := hO.F; have oL := hO.L; have oH := hO.H; have oN := hO.N; have oK := hO.K; have oT := hO.T; have oB := hO.B
  refine ⟨?_, ?_, ?_, ?_, ?_, ?_, ?_, ?_, ?_, ?_, ?_, ?_, ?_, ?_, ?_, ?_, ?_, ?_, ?_, ?_, ?_, ?_, ?_, ?_, ?_, ?_, ?_, ?_, ?_, ?_, ?_, ?_, ?_, ?_, ?_, ?_, ?_, ?_, ?_, ?_, ?_, ?_, ?_, ?_, ?_, ?_, ?_, ?_, ?_⟩
  · exact n3
  · rw [e _ _ (by omega)]; exact hR.L
  · rw [e _ _ (by omega)]; exact hR.H
  · rw [e _ _ (by omega)]; exact hR.K
  · rw [e _ _ (by omega)]; exact hR.T
  · rw [e _ _ (by omega)]; exact hR.img
  · rw [e _ _ (by omega)]; exact hR.N
  · rw [e _ _ (by omega)]; exact hR.law
  · rw [e _ _ (by omega)]; exact hR.out
  · rw [e _ _ (by omega)]; exact hR.on
  · rw [e _ _ (by omega)]; exact hR.hour
  · rw [e _ _ (by omega)]; exact hR.slips
  · rw [e _ _ (by omega)]; exact hR.iN
  · rw [e _ _ (by omega)]; exact hR.ilaw
  · rw [e _ _ (by omega)]; exact hR.iout
  · rw [e _ _ (by omega)]; exact hR.ion
  · rw [e _ _ (by omega)]; exact hR.ihour
  · rw [e _ _ (by omega)]; exact hR.islips
  · rw [e _ _ (by omega)]; exact hR.B
  · intro i (h0 : i < A.B); rw [e _ _ (by omega)]; exact hR.tape _ h0
  · intro i (h0 : i < A.F + 1)
    by_cases e0 : i = A.F
    · subst e0
      rw [n1]
      exact (if_pos rfl).symm
    · rw [e _ _ (by omega), hR.bears i (by omega)]
      exact (if_neg e0).symm
  · intro i (h0 : i < A.F + 1)
    by_cases e0 : i = A.F
    · subst e0
      rw [n2]
      exact (if_pos rfl).symm
    · rw [e _ _ (by omega), hR.times i (by omega)]
      exact (if_neg e0).symm
  · intro i (h0 : i < 6); rw [e _ _ (by omega)]; exact hR.lends _ h0
  · intro l (h0 : l < A.L); rw [e _ _ (by omega)]; exact hR.kind _ h0
  · intro l (h0 : l < A.L); rw [e _ _ (by omega)]; exact hR.pow _ h0
  · intro l (h0 : l < A.L); rw [e _ _ (by omega)]; exact hR.room _ h0
  · intro l (h0 : l < A.L); rw [e _ _ (by omega)]; exact hR.sx _ h0
  · intro l (h0 : l < A.L); rw [e _ _ (by omega)]; exact hR.sy _ h0
  · intro l (h0 : l < A.L); rw [e _ _ (by omega)]; exact hR.more _ h0
  · intro h l (h0 : h < A.H) (h1 : l < A.L); rw [e _ _ (by omega)]; exact hR.fed _ _ h0 h1
  · intro h f (h0 : h < A.H) (h1 : f < 6); rw [e _ _ (by omega)]; exact hR.feeds _ _ h0 h1
  · intro h f (h0 : A.H ≤ h) (h1 : h < 12) (h2 : f < 6); rw [e _ _ (by omega)]; exact hR.feeds0 _ _ h0 h1 h2
  · intro k l (h0 : k < A.K) (h1 : l < A.L); rw [e _ _ (by omega)]; exact hR.lab _ _ h0 h1
  · intro k (h0 : k < A.K); rw [e _ _ (by omega)]; exact hR.year _ h0
  · intro k (h0 : k < 10); rw [e _ _ (by omega)]; exact hR.ao _ h0
  · intro k (h0 : k < 10); rw [e _ _ (by omega)]; exact hR.an _ h0
  · intro k (h0 : k < 10); rw [e _ _ (by omega)]; exact hR.ah _ h0
  · intro k (h0 : k < 10); rw [e _ _ (by omega)]; exact hR.ar _ h0
  · intro k (h0 : k < 10); rw [e _ _ (by omega)]; exact hR.az _ h0
  · intro k (h0 : k < 10); rw [e _ _ (by omega)]; exact hR.io _ h0
  · intro k (h0 : k < 10); rw [e _ _ (by omega)]; exact hR.inn _ h0
  · intro k (h0 : k < 10); rw [e _ _ (by omega)]; exact hR.ih _ h0
  · intro k (h0 : k < 10); rw [e _ _ (by omega)]; exact hR.ir _ h0
  · intro k (h0 : k < 10); rw [e _ _ (by omega)]; exact hR.iz _ h0
  · intro t p (h0 : t < A.T) (h1 : p < 3); rw [e _ _ (by omega)]; exact hR.ends _ _ h0 h1
  · intro t p i (h0 : t < A.T) (h1 : p < 3) (h2 : i < (A.txt t p).length); rw [e _ _ (by omega)]; exact hR.stp _ _ _ h0 h1 h2
  · intro s (h0 : s < 4); rw [e _ _ (by omega)]; exact hR.sort _ h0
  · intro s (h0 : s < 4); rw [e _ _ (by omega)]; exact hR.size _ h0
  · intro s i (h0 : s < 4) (h1 : i < 40); rw [e _ _ (by omega)]; exact hR.cell _ _ h0 h1
theorem u_fuse_r {A : q_A} {a b : Int32} {d e2 : Nat → Nat → Int32} (hO : q_Ok A) (hR : q_Rr A d) (hF : A.F < 6) (e : ∀ o k, ¬ (o = 136 ∧ k = A.F) ∧ ¬ (o = 137 ∧ k = A.F) ∧ ¬ (o = 135 ∧ k = 4) → e2 o k = d o k) (n1 : e2 136 A.F = a) (n2 : e2 137 A.F = b) (n3 : e2 135 4 = nI (A.F + 1)) : q_Rr (A.u_fuse a b) e2 := by
  have oF := hO.F; have oL := hO.L; have oH := hO.H; have oN := hO.N; have oK := hO.K; have oT := hO.T; have oB := hO.B
  refine ⟨?_, ?_, ?_, ?_, ?_, ?_, ?_, ?_, ?_, ?_, ?_, ?_, ?_, ?_, ?_, ?_, ?_, ?_, ?_, ?_, ?_, ?_, ?_, ?_, ?_, ?_, ?_, ?_, ?_, ?_, ?_, ?_, ?_, ?_, ?_, ?_, ?_, ?_, ?_, ?_, ?_, ?_, ?_, ?_, ?_, ?_⟩
  · rw [e _ _ (by omega)]; exact hR.out
  · rw [e _ _ (by omega)]; exact hR.on
  · rw [e _ _ (by omega)]; exact hR.hour
  · rw [e _ _ (by omega)]; exact hR.slips
  · exact n3
  · rw [e _ _ (by omega)]; exact hR.L
  · rw [e _ _ (by omega)]; exact hR.H
  · rw [e _ _ (by omega)]; exact hR.N
  · rw [e _ _ (by omega)]; exact hR.K
  · rw [e _ _ (by omega)]; exact hR.B
  · rw [e _ _ (by omega)]; exact hR.T
  · rw [e _ _ (by omega)]; exact hR.law
  · rw [e _ _ (by omega)]; exact hR.img
  · rw [e _ _ (by omega)]; exact hR.iout
  · rw [e _ _ (by omega)]; exact hR.ion
  · rw [e _ _ (by omega)]; exact hR.ihour
  · rw [e _ _ (by omega)]; exact hR.islips
  · rw [e _ _ (by omega)]; exact hR.iN
  · rw [e _ _ (by omega)]; exact hR.ilaw
  · intro i (h0 : i < A.F + 1)
    by_cases e0 : i = A.F
    · subst e0
      rw [n1]
      exact (if_pos rfl).symm
    · rw [e _ _ (by omega), hR.bears i (by omega)]
      exact (if_neg e0).symm
  · intro i (h0 : i < A.F + 1)
    by_cases e0 : i = A.F
    · subst e0
      rw [n2]
      exact (if_pos rfl).symm
    · rw [e _ _ (by omega), hR.times i (by omega)]
      exact (if_neg e0).symm
  · intro l (h0 : l < A.L); rw [e _ _ (by omega)]; exact hR.kind _ h0
  · intro l (h0 : l < A.L); rw [e _ _ (by omega)]; exact hR.pow _ h0
  · intro l (h0 : l < A.L); rw [e _ _ (by omega)]; exact hR.room _ h0
  · intro l (h0 : l < A.L); rw [e _ _ (by omega)]; exact hR.sx _ h0
  · intro l (h0 : l < A.L); rw [e _ _ (by omega)]; exact hR.sy _ h0
  · intro l (h0 : l < A.L); rw [e _ _ (by omega)]; exact hR.more _ h0
  · intro h l (h0 : h < A.H) (h1 : l < A.L); rw [e _ _ (by omega)]; exact hR.fed _ _ h0 h1
  · intro k (h0 : k < 10); rw [e _ _ (by omega)]; exact hR.ao _ h0
  · intro k (h0 : k < 10); rw [e _ _ (by omega)]; exact hR.an _ h0
  · intro k (h0 : k < 10); rw [e _ _ (by omega)]; exact hR.ah _ h0
  · intro k (h0 : k < 10); rw [e _ _ (by omega)]; exact hR.ar _ h0
  · intro k (h0 : k < 10); rw [e _ _ (by omega)]; exact hR.az _ h0
  · intro k (h0 : k < A.K); rw [e _ _ (by omega)]; exact hR.year _ h0
  · intro k l (h0 : k < A.K) (h1 : l < A.L); rw [e _ _ (by omega)]; exact hR.lab _ _ h0 h1
  · intro i (h0 : i < A.B); rw [e _ _ (by omega)]; exact hR.tape _ h0
  · intro t p i (h0 : t < A.T) (h1 : p < 3) (h2 : i < (A.txt t p).length); rw [e _ _ (by omega)]; exact hR.cod _ _ _ h0 h1 h2
  · intro t p (h0 : t < A.T) (h1 : p < 4); rw [e _ _ (by omega)]; exact hR.starts _ _ h0 h1
  · intro k (h0 : k < 10); rw [e _ _ (by omega)]; exact hR.io _ h0
  · intro k (h0 : k < 10); rw [e _ _ (by omega)]; exact hR.inn _ h0
  · intro k (h0 : k < 10); rw [e _ _ (by omega)]; exact hR.ih _ h0
  · intro k (h0 : k < 10); rw [e _ _ (by omega)]; exact hR.ir _ h0
  · intro k (h0 : k < 10); rw [e _ _ (by omega)]; exact hR.iz _ h0
  · intro s (h0 : s < 4); rw [e _ _ (by omega)]; exact hR.sort _ h0
  · intro s (h0 : s < 4); rw [e _ _ (by omega)]; exact hR.size _ h0
  · intro s i (h0 : s < 4) (h1 : i < 40); rw [e _ _ (by omega)]; exact hR.cell _ _ h0 h1
/-! setout -/
def q_A.u_setout (A : q_A) (v : Int32) : q_A := (A).setI 0 (fun _ _ => v)
theorem u_setout_ok {A : q_A} {v : Int32} (hO : q_Ok A)  : q_Ok (A.u_setout v) := by
  have oF := hO.F; have oL := hO.L; have oH := hO.H; have oN := hO.N; have oK := hO.K; have oT := hO.T; have oB := hO.B
  refine ⟨?_, ?_, ?_, ?_, ?_, ?_, ?_, ?_, ?_, ?_, ?_, ?_, ?_, ?_, ?_, ?_, ?_, ?_, ?_, ?_, ?_, ?_, ?_, ?_, ?_, ?_, ?_⟩
  · exact hO.F
  · exact hO.L
  · exact hO.H
  · exact hO.K
  · exact hO.T
  · exact hO.T0
  · exact hO.N
  · exact hO.B
  · exact hO.law
  · exact hO.iN
  · exact hO.ilaw
  · exact hO.img
  · exact hO.kind
  · exact hO.pow
  · exact hO.pow1
  · exact hO.room
  · exact hO.sx
  · exact hO.sy
  · exact hO.more
  · exact hO.fed
  · exact hO.lab
  · exact hO.size
  · exact hO.sort
  · exact hO.tape
  · exact hO.txt
  · exact hO.cok
  · exact hO.txl
theorem u_setout_w {A : q_A} {v : Int32} {d e2 : Nat → Nat → Int32} (hO : q_Ok A) (hR : q_Rw A d)  (e : ∀ o k, ¬ (o = 8 ∧ k = 0) → e2 o k = d o k) (n1 : e2 8 0 = v) : q_Rw (A.u_setout v) e2 := by
  have oF := hO.F; have oL := hO.L; have oH := hO.H; have oN := hO.N; have oK := hO.K; have oT := hO.T; have oB := hO.B
  refine ⟨?_, ?_, ?_, ?_, ?_, ?_, ?_, ?_, ?_, ?_, ?_, ?_, ?_, ?_, ?_, ?_, ?_, ?_, ?_, ?_, ?_, ?_, ?_, ?_, ?_, ?_, ?_, ?_, ?_, ?_, ?_, ?_, ?_, ?_, ?_, ?_, ?_, ?_, ?_, ?_, ?_, ?_, ?_, ?_, ?_, ?_, ?_, ?_, ?_⟩
  · rw [e _ _ (by omega)]; exact hR.F
  · rw [e _ _ (by omega)]; exact hR.L
  · rw [e _ _ (by omega)]; exact hR.H
  · rw [e _ _ (by omega)]; exact hR.K
  · rw [e _ _ (by omega)]; exact hR.T
  · rw [e _ _ (by omega)]; exact hR.img
  · rw [e _ _ (by omega)]; exact hR.N
  · rw [e _ _ (by omega)]; exact hR.law
  · exact n1
  · rw [e _ _ (by omega)]; exact hR.on
  · rw [e _ _ (by omega)]; exact hR.hour
  · rw [e _ _ (by omega)]; exact hR.slips
  · rw [e _ _ (by omega)]; exact hR.iN
  · rw [e _ _ (by omega)]; exact hR.ilaw
  · rw [e _ _ (by omega)]; exact hR.iout
  · rw [e _ _ (by omega)]; exact hR.ion
  · rw [e _ _ (by omega)]; exact hR.ihour
  · rw [e _ _ (by omega)]; exact hR.islips
  · rw [e _ _ (by omega)]; exact hR.B
  · intro i (h0 : i < A.B); rw [e _ _ (by omega)]; exact hR.tape _ h0
  · intro i (h0 : i < A.F); rw [e _ _ (by omega)]; exact hR.bears _ h0
  · intro i (h0 : i < A.F); rw [e _ _ (by omega)]; exact hR.times _ h0
  · intro i (h0 : i < 6); rw [e _ _ (by omega)]; exact hR.lends _ h0
  · intro l (h0 : l < A.L); rw [e _ _ (by omega)]; exact hR.kind _ h0
  · intro l (h0 : l < A.L); rw [e _ _ (by omega)]; exact hR.pow _ h0
  · intro l (h0 : l < A.L); rw [e _ _ (by omega)]; exact hR.room _ h0
  · intro l (h0 : l < A.L); rw [e _ _ (by omega)]; exact hR.sx _ h0
  · intro l (h0 : l < A.L); rw [e _ _ (by omega)]; exact hR.sy _ h0
  · intro l (h0 : l < A.L); rw [e _ _ (by omega)]; exact hR.more _ h0
  · intro h l (h0 : h < A.H) (h1 : l < A.L); rw [e _ _ (by omega)]; exact hR.fed _ _ h0 h1
  · intro h f (h0 : h < A.H) (h1 : f < 6); rw [e _ _ (by omega)]; exact hR.feeds _ _ h0 h1
  · intro h f (h0 : A.H ≤ h) (h1 : h < 12) (h2 : f < 6); rw [e _ _ (by omega)]; exact hR.feeds0 _ _ h0 h1 h2
  · intro k l (h0 : k < A.K) (h1 : l < A.L); rw [e _ _ (by omega)]; exact hR.lab _ _ h0 h1
  · intro k (h0 : k < A.K); rw [e _ _ (by omega)]; exact hR.year _ h0
  · intro k (h0 : k < 10); rw [e _ _ (by omega)]; exact hR.ao _ h0
  · intro k (h0 : k < 10); rw [e _ _ (by omega)]; exact hR.an _ h0
  · intro k (h0 : k < 10); rw [e _ _ (by omega)]; exact hR.ah _ h0
  · intro k (h0 : k < 10); rw [e _ _ (by omega)]; exact hR.ar _ h0
  · intro k (h0 : k < 10); rw [e _ _ (by omega)]; exact hR.az _ h0
  · intro k (h0 : k < 10); rw [e _ _ (by omega)]; exact hR.io _ h0
  · intro k (h0 : k < 10); rw [e _ _ (by omega)]; exact hR.inn _ h0
  · intro k (h0 : k < 10); rw [e _ _ (by omega)]; exact hR.ih _ h0
  · intro k (h0 : k < 10); rw [e _ _ (by omega)]; exact hR.ir _ h0
  · intro k (h0 : k < 10); rw [e _ _ (by omega)]; exact hR.iz _ h0
  · intro t p (h0 : t < A.T) (h1 : p < 3); rw [e _ _ (by omega)]; exact hR.ends _ _ h0 h1
  · intro t p i (h0 : t < A.T) (h1 : p < 3) (h2 : i < (A.txt t p).length); rw [e _ _ (by omega)]; exact hR.stp _ _ _ h0 h1 h2
  · intro s (h0 : s < 4); rw [e _ _ (by omega)]; exact hR.sort _ h0
  · intro s (h0 : s < 4); rw [e _ _ (by omega)]; exact hR.size _ h0
  · intro s i (h0 : s < 4) (h1 : i < 40); rw [e _ _ (by omega)]; exact hR.cell _ _ h0 h1
theorem u_setout_r {A : q_A} {v : Int32} {d e2 : Nat → Nat → Int32} (hO : q_Ok A) (hR : q_Rr A d)  (e : ∀ o k, ¬ (o = 135 ∧ k = 0) → e2 o k = d o k) (n1 : e2 135 0 = v) : q_Rr (A.u_setout v) e2 := by
  have oF := hO.F; have oL := hO.L; have oH := hO.H; have oN := hO.N; have oK := hO.K; have oT := hO.T; have oB := hO.B
  refine ⟨?_, ?_, ?_, ?_, ?_, ?_, ?_, ?_, ?_, ?_, ?_, ?_, ?_, ?_, ?_, ?_, ?_, ?_, ?_, ?_, ?_, ?_, ?_, ?_, ?_, ?_, ?_, ?_, ?_, ?_, ?_, ?_, ?_, ?_, ?_, ?_, ?_, ?_, ?_, ?_, ?_, ?_, ?_, ?_, ?_, ?_⟩
  · exact n1
  · rw [e _ _ (by omega)]; exact hR.on
  · rw [e _ _ (by omega)]; exact hR.hour
  · rw [e _ _ (by omega)]; exact hR.slips
  · rw [e _ _ (by omega)]; exact hR.F
  · rw [e _ _ (by omega)]; exact hR.L
  · rw [e _ _ (by omega)]; exact hR.H
  · rw [e _ _ (by omega)]; exact hR.N
  · rw [e _ _ (by omega)]; exact hR.K
  · rw [e _ _ (by omega)]; exact hR.B
  · rw [e _ _ (by omega)]; exact hR.T
  · rw [e _ _ (by omega)]; exact hR.law
  · rw [e _ _ (by omega)]; exact hR.img
  · rw [e _ _ (by omega)]; exact hR.iout
  · rw [e _ _ (by omega)]; exact hR.ion
  · rw [e _ _ (by omega)]; exact hR.ihour
  · rw [e _ _ (by omega)]; exact hR.islips
  · rw [e _ _ (by omega)]; exact hR.iN
  · rw [e _ _ (by omega)]; exact hR.ilaw
  · intro i (h0 : i < A.F); rw [e _ _ (by omega)]; exact hR.bears _ h0
  · intro i (h0 : i < A.F); rw [e _ _ (by omega)]; exact hR.times _ h0
  · intro l (h0 : l < A.L); rw [e _ _ (by omega)]; exact hR.kind _ h0
  · intro l (h0 : l < A.L); rw [e _ _ (by omega)]; exact hR.pow _ h0
  · intro l (h0 : l < A.L); rw [e _ _ (by omega)]; exact hR.room _ h0
  · intro l (h0 : l < A.L); rw [e _ _ (by omega)]; exact hR.sx _ h0
  · intro l (h0 : l < A.L); rw [e _ _ (by omega)]; exact hR.sy _ h0
  · intro l (h0 : l < A.L); rw [e _ _ (by omega)]; exact hR.more _ h0
  · intro h l (h0 : h < A.H) (h1 : l < A.L); rw [e _ _ (by omega)]; exact hR.fed _ _ h0 h1
  · intro k (h0 : k < 10); rw [e _ _ (by omega)]; exact hR.ao _ h0
  · intro k (h0 : k < 10); rw [e _ _ (by omega)]; exact hR.an _ h0
  · intro k (h0 : k < 10); rw [e _ _ (by omega)]; exact hR.ah _ h0
  · intro k (h0 : k < 10); rw [e _ _ (by omega)]; exact hR.ar _ h0
  · intro k (h0 : k < 10); rw [e _ _ (by omega)]; exact hR.az _ h0
  · intro k (h0 : k < A.K); rw [e _ _ (by omega)]; exact hR.year _ h0
  · intro k l (h0 : k < A.K) (h1 : l < A.L); rw [e _ _ (by omega)]; exact hR.lab _ _ h0 h1
  · intro i (h0 : i < A.B); rw [e _ _ (by omega)]; exact hR.tape _ h0
  · intro t p i (h0 : t < A.T) (h1 : p < 3) (h2 : i < (A.txt t p).length); rw [e _ _ (by omega)]; exact hR.cod _ _ _ h0 h1 h2
  · intro t p (h0 : t < A.T) (h1 : p < 4); rw [e _ _ (by omega)]; exact hR.starts _ _ h0 h1
  · intro k (h0 : k < 10); rw [e _ _ (by omega)]; exact hR.io _ h0
  · intro k (h0 : k < 10); rw [e _ _ (by omega)]; exact hR.inn _ h0
  · intro k (h0 : k < 10); rw [e _ _ (by omega)]; exact hR.ih _ h0
  · intro k (h0 : k < 10); rw [e _ _ (by omega)]; exact hR.ir _ h0
  · intro k (h0 : k < 10); rw [e _ _ (by omega)]; exact hR.iz _ h0
  · intro s (h0 : s < 4); rw [e _ _ (by omega)]; exact hR.sort _ h0
  · intro s (h0 : s < 4); rw [e _ _ (by omega)]; exact hR.size _ h0
  · intro s i (h0 : s < 4) (h1 : i < 40); rw [e _ _ (by omega)]; exact hR.cell _ _ h0 h1
/-! seton -/
def q_A.u_seton (A : q_A) (v : Int32) : q_A := (A).setI 1 (fun _ _ => v)
theorem u_seton_ok {A : q_A} {v : Int32} (hO : q_Ok A)  : q_Ok (A.u_seton v) := by
  have oF := hO.F; have oL := hO.L; have oH := hO.H; have oN := hO.N; have oK := hO.K; have oT := hO.T; have oB := hO.B
  refine ⟨?_, ?_, ?_, ?_, ?_, ?_, ?_, ?_, ?_, ?_, ?_, ?_, ?_, ?_, ?_, ?_, ?_, ?_, ?_, ?_, ?_, ?_, ?_, ?_, ?_, ?_, ?_⟩
  · exact hO.F
  · exact hO.L
  · exact hO.H
  · exact hO.K
  · exact hO.T
  · exact hO.T0
  · exact hO.N
  · exact hO.B
  · exact hO.law
  · exact hO.iN
  · exact hO.ilaw
  · exact hO.img
  · exact hO.kind
  · exact hO.pow
  · exact hO.pow1
  · exact hO.room
  · exact hO.sx
  · exact hO.sy
  · exact hO.more
  · exact hO.fed
  · exact hO.lab
  · exact hO.size
  · exact hO.sort
  · exact hO.tape
  · exact hO.txt
  · exact hO.cok
  · exact hO.txl
theorem u_seton_w {A : q_A} {v : Int32} {d e2 : Nat → Nat → Int32} (hO : q_Ok A) (hR : q_Rw A d)  (e : ∀ o k, ¬ (o = 8 ∧ k = 1) → e2 o k = d o k) (n1 : e2 8 1 = v) : q_Rw (A.u_seton v) e2 := by
  have oF := hO.F; have oL := hO.L; have oH := hO.H; have oN := hO.N; have oK := hO.K; have oT := hO.T; have oB := hO.B
  refine ⟨?_, ?_, ?_, ?_, ?_, ?_, ?_, ?_, ?_, ?_, ?_, ?_, ?_, ?_, ?_, ?_, ?_, ?_, ?_, ?_, ?_, ?_, ?_, ?_, ?_, ?_, ?_, ?_, ?_, ?_, ?_, ?_, ?_, ?_, ?_, ?_, ?_, ?_, ?_, ?_, ?_, ?_, ?_, ?_, ?_, ?_, ?_, ?_, ?_⟩
  · rw [e _ _ (by omega)]; exact hR.F
  · rw [e _ _ (by omega)]; exact hR.L
  · rw [e _ _ (by omega)]; exact hR.H
  · rw [e _ _ (by omega)]; exact hR.K
  · rw [e _ _ (by omega)]; exact hR.T
  · rw [e _ _ (by omega)]; exact hR.img
  · rw [e _ _ (by omega)]; exact hR.N
  · rw [e _ _ (by omega)]; exact hR.law
  · rw [e _ _ (by omega)]; exact hR.out
  · exact n1
  · rw [e _ _ (by omega)]; exact hR.hour
  · rw [e _ _ (by omega)]; exact hR.slips
  · rw [e _ _ (by omega)]; exact hR.iN
  · rw [e _ _ (by omega)]; exact hR.ilaw
  · rw [e _ _ (by omega)]; exact hR.iout
  · rw [e _ _ (by omega)]; exact hR.ion
  · rw [e _ _ (by omega)]; exact hR.ihour
  · rw [e _ _ (by omega)]; exact hR.islips
  · rw [e _ _ (by omega)]; exact hR.B
  · intro i (h0 : i < A.B); rw [e _ _ (by omega)]; exact hR.tape _ h0
  · intro i (h0 : i < A.F); rw [e _ _ (by omega)]; exact hR.bears _ h0
  · intro i (h0 : i < A.F); rw [e _ _ (by omega)]; exact hR.times _ h0
  · intro i (h0 : i < 6); rw [e _ _ (by omega)]; exact hR.lends _ h0
  · intro l (h0 : l < A.L); rw [e _ _ (by omega)]; exact hR.kind _ h0
  · intro l (h0 : l < A.L); rw [e _ _ (by omega)]; exact hR.pow _ h0
  · intro l (h0 : l < A.L); rw [e _ _ (by omega)]; exact hR.room _ h0
  · intro l (h0 : l < A.L); rw [e _ _ (by omega)]; exact hR.sx _ h0
  · intro l (h0 : l < A.L); rw [e _ _ (by omega)]; exact hR.sy _ h0
  · intro l (h0 : l < A.L); rw [e _ _ (by omega)]; exact hR.more _ h0
  · intro h l (h0 : h < A.H) (h1 : l < A.L); rw [e _ _ (by omega)]; exact hR.fed _ _ h0 h1
  · intro h f (h0 : h < A.H) (h1 : f < 6); rw [e _ _ (by omega)]; exact hR.feeds _ _ h0 h1
  · intro h f (h0 : A.H ≤ h) (h1 : h < 12) (h2 : f < 6); rw [e _ _ (by omega)]; exact hR.feeds0 _ _ h0 h1 h2
  · intro k l (h0 : k < A.K) (h1 : l < A.L); rw [e _ _ (by omega)]; exact hR.lab _ _ h0 h1
  · intro k (h0 : k < A.K); rw [e _ _ (by omega)]; exact hR.year _ h0
  · intro k (h0 : k < 10); rw [e _ _ (by omega)]; exact hR.ao _ h0
  · intro k (h0 : k < 10); rw [e _ _ (by omega)]; exact hR.an _ h0
  · intro k (h0 : k < 10); rw [e _ _ (by omega)]; exact hR.ah _ h0
  · intro k (h0 : k < 10); rw [e _ _ (by omega)]; exact hR.ar _ h0
  · intro k (h0 : k < 10); rw [e _ _ (by omega)]; exact hR.az _ h0
  · intro k (h0 : k < 10); rw [e _ _ (by omega)]; exact hR.io _ h0
  · intro k (h0 : k < 10); rw [e _ _ (by omega)]; exact hR.inn _ h0
  · intro k (h0 : k < 10); rw [e _ _ (by omega)]; exact hR.ih _ h0
  · intro k (h0 : k < 10); rw [e _ _ (by omega)]; exact hR.ir _ h0
  · intro k (h0 : k < 10); rw [e _ _ (by omega)]; exact hR.iz _ h0
  · intro t p (h0 : t < A.T) (h1 : p < 3); rw [e _ _ (by omega)]; exact hR.ends _ _ h0 h1
  · intro t p i (h0 : t < A.T) (h1 : p < 3) (h2 : i < (A.txt t p).length); rw [e _ _ (by omega)]; exact hR.stp _ _ _ h0 h1 h2
  · intro s (h0 : s < 4); rw [e _ _ (by omega)]; exact hR.sort _ h0
  · intro s (h0 : s < 4); rw [e _ _ (by omega)]; exact hR.size _ h0
  · intro s i (h0 : s < 4) (h1 : i < 40); rw [e _ _ (by omega)]; exact hR.cell _ _ h0 h1
theorem u_seton_r {A : q_A} {v : Int32} {d e2 : Nat → Nat → Int32} (hO : q_Ok A) (hR : q_Rr A d)  (e : ∀ o k, ¬ (o = 135 ∧ k = 1) → e2 o k = d o k) (n1 : e2 135 1 = v) : q_Rr (A.u_seton v) e2 := by
  have oF := hO.F; have oL := hO.L; have oH := hO.H; have oN := hO.N; have oK := hO.K; have oT := hO.T; have oB := hO.B
  refine ⟨?_, ?_, ?_, ?_, ?_, ?_, ?_, ?_, ?_, ?_, ?_, ?_, ?_, ?_, ?_, ?_, ?_, ?_, ?_, ?_, ?_, ?_, ?_, ?_, ?_, ?_, ?_, ?_, ?_, ?_, ?_, ?_, ?_, ?_, ?_, ?_, ?_, ?_, ?_, ?_, ?_, ?_, ?_, ?_, ?_, ?_⟩
  · rw [e _ _ (by omega)]; exact hR.out
  · exact n1
  · rw [e _ _ (by omega)]; exact hR.hour
  · rw [e _ _ (by omega)]; exact hR.slips
  · rw [e _ _ (by omega)]; exact hR.F
  · rw [e _ _ (by omega)]; exact hR.L
  · rw [e _ _ (by omega)]; exact hR.H
  · rw [e _ _ (by omega)]; exact hR.N
  · rw [e _ _ (by omega)]; exact hR.K
  · rw [e _ _ (by omega)]; exact hR.B
  · rw [e _ _ (by omega)]; exact hR.T
  · rw [e _ _ (by omega)]; exact hR.law
  · rw [e _ _ (by omega)]; exact hR.img
  · rw [e _ _ (by omega)]; exact hR.iout
  · rw [e _ _ (by omega)]; exact hR.ion
  · rw [e _ _ (by omega)]; exact hR.ihour
  · rw [e _ _ (by omega)]; exact hR.islips
  · rw [e _ _ (by omega)]; exact hR.iN
  · rw [e _ _ (by omega)]; exact hR.ilaw
  · intro i (h0 : i < A.F); rw [e _ _ (by omega)]; exact hR.bears _ h0
  · intro i (h0 : i < A.F); rw [e _ _ (by omega)]; exact hR.times _ h0
  · intro l (h0 : l < A.L); rw [e _ _ (by omega)]; exact hR.kind _ h0
  · intro l (h0 : l < A.L); rw [e _ _ (by omega)]; exact hR.pow _ h0
  · intro l (h0 : l < A.L); rw [e _ _ (by omega)]; exact hR.room _ h0
  · intro l (h0 : l < A.L); rw [e _ _ (by omega)]; exact hR.sx _ h0
  · intro l (h0 : l < A.L); rw [e _ _ (by omega)]; exact hR.sy _ h0
  · intro l (h0 : l < A.L); rw [e _ _ (by omega)]; exact hR.more _ h0
  · intro h l (h0 : h < A.H) (h1 : l < A.L); rw [e _ _ (by omega)]; exact hR.fed _ _ h0 h1
  · intro k (h0 : k < 10); rw [e _ _ (by omega)]; exact hR.ao _ h0
  · intro k (h0 : k < 10); rw [e _ _ (by omega)]; exact hR.an _ h0
  · intro k (h0 : k < 10); rw [e _ _ (by omega)]; exact hR.ah _ h0
  · intro k (h0 : k < 10); rw [e _ _ (by omega)]; exact hR.ar _ h0
  · intro k (h0 : k < 10); rw [e _ _ (by omega)]; exact hR.az _ h0
  · intro k (h0 : k < A.K); rw [e _ _ (by omega)]; exact hR.year _ h0
  · intro k l (h0 : k < A.K) (h1 : l < A.L); rw [e _ _ (by omega)]; exact hR.lab _ _ h0 h1
  · intro i (h0 : i < A.B); rw [e _ _ (by omega)]; exact hR.tape _ h0
  · intro t p i (h0 : t < A.T) (h1 : p < 3) (h2 : i < (A.txt t p).length); rw [e _ _ (by omega)]; exact hR.cod _ _ _ h0 h1 h2
  · intro t p (h0 : t < A.T) (h1 : p < 4); rw [e _ _ (by omega)]; exact hR.starts _ _ h0 h1
  · intro k (h0 : k < 10); rw [e _ _ (by omega)]; exact hR.io _ h0
  · intro k (h0 : k < 10); rw [e _ _ (by omega)]; exact hR.inn _ h0
  · intro k (h0 : k < 10); rw [e _ _ (by omega)]; exact hR.ih _ h0
  · intro k (h0 : k < 10); rw [e _ _ (by omega)]; exact hR.ir _ h0
  · intro k (h0 : k < 10); rw [e _ _ (by omega)]; exact hR.iz _ h0
  · intro s (h0 : s < 4); rw [e _ _ (by omega)]; exact hR.sort _ h0
  · intro s (h0 : s < 4); rw [e _ _ (by omega)]; exact hR.size _ h0
  · intro s i (h0 : s < 4) (h1 : i < 40); rw [e _ _ (by omega)]; exact hR.cell _ _ h0 h1
/-! sethour -/
def q_A.u_sethour (A : q_A) (v : Int32) : q_A := (A).setI 2 (fun _ _ => v)
theorem u_sethour_ok {A : q_A} {v : Int32} (hO : q_Ok A)  : q_Ok (A.u_sethour v) := by
  have oF := hO.F; have oL := hO.L; have oH := hO.H; have oN := hO.N; have oK := hO.K; have oT := hO.T; have oB := hO.B
  refine ⟨?_, ?_, ?_, ?_, ?_, ?_, ?_, ?_, ?_, ?_, ?_, ?_, ?_, ?_, ?_, ?_, ?_, ?_, ?_, ?_, ?_, ?_, ?_, ?_, ?_, ?_, ?_⟩
  · exact hO.F
  · exact hO.L
  · exact hO.H
  · exact hO.K
  · exact hO.T
  · exact hO.T0
  · exact hO.N
  · exact hO.B
  · exact hO.law
  · exact hO.iN
  · exact hO.ilaw
  · exact hO.img
  · exact hO.kind
  · exact hO.pow
  · exact hO.pow1
  · exact hO.room
  · exact hO.sx
  · exact hO.sy
  · exact hO.more
  · exact hO.fed
  · exact hO.lab
  · exact hO.size
  · exact hO.sort
  · exact hO.tape
  · exact hO.txt
  · exact hO.cok
  · exact hO.txl
theorem u_sethour_w {A : q_A} {v : Int32} {d e2 : Nat → Nat → Int32} (hO : q_Ok A) (hR : q_Rw A d)  (e : ∀ o k, ¬ (o = 8 ∧ k = 2) → e2 o k = d o k) (n1 : e2 8 2 = v) : q_Rw (A.u_sethour v) e2 := by
  have oF := hO.F; have oL := hO.L; have oH := hO.H; have oN := hO.N; have oK := hO.K; have oT := hO.T; have oB := hO.B
  refine ⟨?_, ?_, ?_, ?_, ?_, ?_, ?_, ?_, ?_, ?_, ?_, ?_, ?_, ?_, ?_, ?_, ?_, ?_, ?_, ?_, ?_, ?_, ?_, ?_, ?_, ?_, ?_, ?_, ?_, ?_, ?_, ?_, ?_, ?_, ?_, ?_, ?_, ?_, ?_, ?_, ?_, ?_, ?_, ?_, ?_, ?_, ?_, ?_, ?_⟩
  · rw [e _ _ (by omega)]; exact hR.F
  · rw [e _ _ (by omega)]; exact hR.L
  · rw [e _ _ (by omega)]; exact hR.H
  · rw [e _ _ (by omega)]; exact hR.K
  · rw [e _ _ (by omega)]; exact hR.T
  · rw [e _ _ (by omega)]; exact hR.img
  · rw [e _ _ (by omega)]; exact hR.N
  · rw [e _ _ (by omega)]; exact hR.law
  · rw [e _ _ (by omega)]; exact hR.out
  · rw [e _ _ (by omega)]; exact hR.on
  · exact n1
  · rw [e _ _ (by omega)]; exact hR.slips
  · rw [e _ _ (by omega)]; exact hR.iN
  · rw [e _ _ (by omega)]; exact hR.ilaw
  · rw [e _ _ (by omega)]; exact hR.iout
  · rw [e _ _ (by omega)]; exact hR.ion
  · rw [e _ _ (by omega)]; exact hR.ihour
  · rw [e _ _ (by omega)]; exact hR.islips
  · rw [e _ _ (by omega)]; exact hR.B
  · intro i (h0 : i < A.B); rw [e _ _ (by omega)]; exact hR.tape _ h0
  · intro i (h0 : i < A.F); rw [e _ _ (by omega)]; exact hR.bears _ h0
  · intro i (h0 : i < A.F); rw [e _ _ (by omega)]; exact hR.times _ h0
  · intro i (h0 : i < 6); rw [e _ _ (by omega)]; exact hR.lends _ h0
  · intro l (h0 : l < A.L); rw [e _ _ (by omega)]; exact hR.kind _ h0
  · intro l (h0 : l < A.L); rw [e _ _ (by omega)]; exact hR.pow _ h0
  · intro l (h0 : l < A.L); rw [e _ _ (by omega)]; exact hR.room _ h0
  · intro l (h0 : l < A.L); rw [e _ _ (by omega)]; exact hR.sx _ h0
  · intro l (h0 : l < A.L); rw [e _ _ (by omega)]; exact hR.sy _ h0
  · intro l (h0 : l < A.L); rw [e _ _ (by omega)]; exact hR.more _ h0
  · intro h l (h0 : h < A.H) (h1 : l < A.L); rw [e _ _ (by omega)]; exact hR.fed _ _ h0 h1
  · intro h f (h0 : h < A.H) (h1 : f < 6); rw [e _ _ (by omega)]; exact hR.feeds _ _ h0 h1
  · intro h f (h0 : A.H ≤ h) (h1 : h < 12) (h2 : f < 6); rw [e _ _ (by omega)]; exact hR.feeds0 _ _ h0 h1 h2
  · intro k l (h0 : k < A.K) (h1 : l < A.L); rw [e _ _ (by omega)]; exact hR.lab _ _ h0 h1
  · intro k (h0 : k < A.K); rw [e _ _ (by omega)]; exact hR.year _ h0
  · intro k (h0 : k < 10); rw [e _ _ (by omega)]; exact hR.ao _ h0
  · intro k (h0 : k < 10); rw [e _ _ (by omega)]; exact hR.an _ h0
  · intro k (h0 : k < 10); rw [e _ _ (by omega)]; exact hR.ah _ h0
  · intro k (h0 : k < 10); rw [e _ _ (by omega)]; exact hR.ar _ h0
  · intro k (h0 : k < 10); rw [e _ _ (by omega)]; exact hR.az _ h0
  · intro k (h0 : k < 10); rw [e _ _ (by omega)]; exact hR.io _ h0
  · intro k (h0 : k < 10); rw [e _ _ (by omega)]; exact hR.inn _ h0
  · intro k (h0 : k < 10); rw [e _ _ (by omega)]; exact hR.ih _ h0
  · intro k (h0 : k < 10); rw [e _ _ (by omega)]; exact hR.ir _ h0
  · intro k (h0 : k < 10); rw [e _ _ (by omega)]; exact hR.iz _ h0
  · intro t p (h0 : t < A.T) (h1 : p < 3); rw [e _ _ (by omega)]; exact hR.ends _ _ h0 h1
  · intro t p i (h0 : t < A.T) (h1 : p < 3) (h2 : i < (A.txt t p).length); rw [e _ _ (by omega)]; exact hR.stp _ _ _ h0 h1 h2
  · intro s (h0 : s < 4); rw [e _ _ (by omega)]; exact hR.sort _ h0
  · intro s (h0 : s < 4); rw [e _ _ (by omega)]; exact hR.size _ h0
  · intro s i (h0 : s < 4) (h1 : i < 40); rw [e _ _ (by omega)]; exact hR.cell _ _ h0 h1
theorem u_sethour_r {A : q_A} {v : Int32} {d e2 : Nat → Nat → Int32} (hO : q_Ok A) (hR : q_Rr A d)  (e : ∀ o k, ¬ (o = 135 ∧ k = 2) → e2 o k = d o k) (n1 : e2 135 2 = v) : q_Rr (A.u_sethour v) e2 := by
  have oF := hO.F; have oL := hO.L; have oH := hO.H; have oN := hO.N; have oK := hO.K; have oT := hO.T; have oB := hO.B
  refine ⟨?_, ?_, ?_, ?_, ?_, ?_, ?_, ?_, ?_, ?_, ?_, ?_, ?_, ?_, ?_, ?_, ?_, ?_, ?_, ?_, ?_, ?_, ?_, ?_, ?_, ?_, ?_, ?_, ?_, ?_, ?_, ?_, ?_, ?_, ?_, ?_, ?_, ?_, ?_, ?_, ?_, ?_, ?_, ?_, ?_, ?_⟩
  · rw [e _ _ (by omega)]; exact hR.out
  · rw [e _ _ (by omega)]; exact hR.on
  · exact n1
  · rw [e _ _ (by omega)]; exact hR.slips
  · rw [e _ _ (by omega)]; exact hR.F
  · rw [e _ _ (by omega)]; exact hR.L
  · rw [e _ _ (by omega)]; exact hR.H
  · rw [e _ _ (by omega)]; exact hR.N
  · rw [e _ _ (by omega)]; exact hR.K
  · rw [e _ _ (by omega)]; exact hR.B
  · rw [e _ _ (by omega)]; exact hR.T
  · rw [e _ _ (by omega)]; exact hR.law
  · rw [e _ _ (by omega)]; exact hR.img
  · rw [e _ _ (by omega)]; exact hR.iout
  · rw [e _ _ (by omega)]; exact hR.ion
  · rw [e _ _ (by omega)]; exact hR.ihour
  · rw [e _ _ (by omega)]; exact hR.islips
  · rw [e _ _ (by omega)]; exact hR.iN
  · rw [e _ _ (by omega)]; exact hR.ilaw
  · intro i (h0 : i < A.F); rw [e _ _ (by omega)]; exact hR.bears _ h0
  · intro i (h0 : i < A.F); rw [e _ _ (by omega)]; exact hR.times _ h0
  · intro l (h0 : l < A.L); rw [e _ _ (by omega)]; exact hR.kind _ h0
  · intro l (h0 : l < A.L); rw [e _ _ (by omega)]; exact hR.pow _ h0
  · intro l (h0 : l < A.L); rw [e _ _ (by omega)]; exact hR.room _ h0
  · intro l (h0 : l < A.L); rw [e _ _ (by omega)]; exact hR.sx _ h0
  · intro l (h0 : l < A.L); rw [e _ _ (by omega)]; exact hR.sy _ h0
  · intro l (h0 : l < A.L); rw [e _ _ (by omega)]; exact hR.more _ h0
  · intro h l (h0 : h < A.H) (h1 : l < A.L); rw [e _ _ (by omega)]; exact hR.fed _ _ h0 h1
  · intro k (h0 : k < 10); rw [e _ _ (by omega)]; exact hR.ao _ h0
  · intro k (h0 : k < 10); rw [e _ _ (by omega)]; exact hR.an _ h0
  · intro k (h0 : k < 10); rw [e _ _ (by omega)]; exact hR.ah _ h0
  · intro k (h0 : k < 10); rw [e _ _ (by omega)]; exact hR.ar _ h0
  · intro k (h0 : k < 10); rw [e _ _ (by omega)]; exact hR.az _ h0
  · intro k (h0 : k < A.K); rw [e _ _ (by omega)]; exact hR.year _ h0
  · intro k l (h0 : k < A.K) (h1 : l < A.L); rw [e _ _ (by omega)]; exact hR.lab _ _ h0 h1
  · intro i (h0 : i < A.B); rw [e _ _ (by omega)]; exact hR.tape _ h0
  · intro t p i (h0 : t < A.T) (h1 : p < 3) (h2 : i < (A.txt t p).length); rw [e _ _ (by omega)]; exact hR.cod _ _ _ h0 h1 h2
  · intro t p (h0 : t < A.T) (h1 : p < 4); rw [e _ _ (by omega)]; exact hR.starts _ _ h0 h1
  · intro k (h0 : k < 10); rw [e _ _ (by omega)]; exact hR.io _ h0
  · intro k (h0 : k < 10); rw [e _ _ (by omega)]; exact hR.inn _ h0
  · intro k (h0 : k < 10); rw [e _ _ (by omega)]; exact hR.ih _ h0
  · intro k (h0 : k < 10); rw [e _ _ (by omega)]; exact hR.ir _ h0
  · intro k (h0 : k < 10); rw [e _ _ (by omega)]; exact hR.iz _ h0
  · intro s (h0 : s < 4); rw [e _ _ (by omega)]; exact hR.sort _ h0
  · intro s (h0 : s < 4); rw [e _ _ (by omega)]; exact hR.size _ h0
  · intro s i (h0 : s < 4) (h1 : i < 40); rw [e _ _ (by omega)]; exact hR.cell _ _ h0 h1
/-! setslips -/
def q_A.u_setslips (A : q_A) (v : Int32) : q_A := (A).setI 3 (fun _ _ => v)
theorem u_setslips_ok {A : q_A} {v : Int32} (hO : q_Ok A)  : q_Ok (A.u_setslips v) := by
  have oF := hO.F; have oL := hO.L; have oH := hO.H; have oN := hO.N; have oK := hO.K; have oT := hO.T; have oB := hO.B
  refine ⟨?_, ?_, ?_, ?_, ?_, ?_, ?_, ?_, ?_, ?_, ?_, ?_, ?_, ?_, ?_, ?_, ?_, ?_, ?_, ?_, ?_, ?_, ?_, ?_, ?_, ?_, ?_⟩
  · exact hO.F
  · exact hO.L
  · exact hO.H
  · exact hO.K
  · exact hO.T
  · exact hO.T0
  · exact hO.N
  · exact hO.B
  · exact hO.law
  · exact hO.iN
  · exact hO.ilaw
  · exact hO.img
  · exact hO.kind
  · exact hO.pow
  · exact hO.pow1
  · exact hO.room
  · exact hO.sx
  · exact hO.sy
  · exact hO.more
  · exact hO.fed
  · exact hO.lab
  · exact hO.size
  · exact hO.sort
  · exact hO.tape
  · exact hO.txt
  · exact hO.cok
  · exact hO.txl
theorem u_setslips_w {A : q_A} {v : Int32} {d e2 : Nat → Nat → Int32} (hO : q_Ok A) (hR : q_Rw A d)  (e : ∀ o k, ¬ (o = 8 ∧ k = 3) → e2 o k = d o k) (n1 : e2 8 3 = v) : q_Rw (A.u_setslips v) e2 := by
  have oF := hO.F; have oL := hO.L; have oH := hO.H; have oN := hO.N; have oK := hO.K; have oT := hO.T; have oB := hO.B
  refine ⟨?_, ?_, ?_, ?_, ?_, ?_, ?_, ?_, ?_, ?_, ?_, ?_, ?_, ?_, ?_, ?_, ?_, ?_, ?_, ?_, ?_, ?_, ?_, ?_, ?_, ?_, ?_, ?_, ?_, ?_, ?_, ?_, ?_, ?_, ?_, ?_, ?_, ?_, ?_, ?_, ?_, ?_, ?_, ?_, ?_, ?_, ?_, ?_, ?_⟩
  · rw [e _ _ (by omega)]; exact hR.F
  · rw [e _ _ (by omega)]; exact hR.L
  · rw [e _ _ (by omega)]; exact hR.H
  · rw [e _ _ (by omega)]; exact hR.K
  · rw [e _ _ (by omega)]; exact hR.T
  · rw [e _ _ (by omega)]; exact hR.img
  · rw [e _ _ (by omega)]; exact hR.N
  · rw [e _ _ (by omega)]; exact hR.law
  · rw [e _ _ (by omega)]; exact hR.out
  · rw [e _ _ (by omega)]; exact hR.on
  · rw [e _ _ (by omega)]; exact hR.hour
  · exact n1
  · rw [e _ _ (by omega)]; exact hR.iN
  · rw [e _ _ (by omega)]; exact hR.ilaw
  · rw [e _ _ (by omega)]; exact hR.iout
  · rw [e _ _ (by omega)]; exact hR.ion
  · rw [e _ _ (by omega)]; exact hR.ihour
  · rw [e _ _ (by omega)]; exact hR.islips
  · rw [e _ _ (by omega)]; exact hR.B
  · intro i (h0 : i < A.B); rw [e _ _ (by omega)]; exact hR.tape _ h0
  · intro i (h0 : i < A.F); rw [e _ _ (by omega)]; exact hR.bears _ h0
  · intro i (h0 : i < A.F); rw [e _ _ (by omega)]; exact hR.times _ h0
  · intro i (h0 : i < 6); rw [e _ _ (by omega)]; exact hR.lends _ h0
  · intro l (h0 : l < A.L); rw [e _ _ (by omega)]; exact hR.kind _ h0
  · intro l (h0 : l < A.L); rw [e _ _ (by omega)]; exact hR.pow _ h0
  · intro l (h0 : l < A.L); rw [e _ _ (by omega)]; exact hR.room _ h0
  · intro l (h0 : l < A.L); rw [e _ _ (by omega)]; exact hR.sx _ h0
  · intro l (h0 : l < A.L); rw [e _ _ (by omega)]; exact hR.sy _ h0
  · intro l (h0 : l < A.L); rw [e _ _ (by omega)]; exact hR.more _ h0
  · intro h l (h0 : h < A.H) (h1 : l < A.L); rw [e _ _ (by omega)]; exact hR.fed _ _ h0 h1
  · intro h f (h0 : h < A.H) (h1 : f < 6); rw [e _ _ (by omega)]; exact hR.feeds _ _ h0 h1
  · intro h f (h0 : A.H ≤ h) (h1 : h < 12) (h2 : f < 6); rw [e _ _ (by omega)]; exact hR.feeds0 _ _ h0 h1 h2
  · intro k l (h0 : k < A.K) (h1 : l < A.L); rw [e _ _ (by omega)]; exact hR.lab _ _ h0 h1
  · intro k (h0 : k < A.K); rw [e _ _ (by omega)]; exact hR.year _ h0
  · intro k (h0 : k < 10); rw [e _ _ (by omega)]; exact hR.ao _ h0
  · intro k (h0 : k < 10); rw [e _ _ (by omega)]; exact hR.an _ h0
  · intro k (h0 : k < 10); rw [e _ _ (by omega)]; exact hR.ah _ h0
  · intro k (h0 : k < 10); rw [e _ _ (by omega)]; exact hR.ar _ h0
  · intro k (h0 : k < 10); rw [e _ _ (by omega)]; exact hR.az _ h0
  · intro k (h0 : k < 10); rw [e _ _ (by omega)]; exact hR.io _ h0
  · intro k (h0 : k < 10); rw [e _ _ (by omega)]; exact hR.inn _ h0
  · intro k (h0 : k < 10); rw [e _ _ (by omega)]; exact hR.ih _ h0
  · intro k (h0 : k < 10); rw [e _ _ (by omega)]; exact hR.ir _ h0
  · intro k (h0 : k < 10); rw [e _ _ (by omega)]; exact hR.iz _ h0
  · intro t p (h0 : t < A.T) (h1 : p < 3); rw [e _ _ (by omega)]; exact hR.ends _ _ h0 h1
  · intro t p i (h0 : t < A.T) (h1 : p < 3) (h2 : i < (A.txt t p).length); rw [e _ _ (by omega)]; exact hR.stp _ _ _ h0 h1 h2
  · intro s (h0 : s < 4); rw [e _ _ (by omega)]; exact hR.sort _ h0
  · intro s (h0 : s < 4); rw [e _ _ (by omega)]; exact hR.size _ h0
  · intro s i (h0 : s < 4) (h1 : i < 40); rw [e _ _ (by omega)]; exact hR.cell _ _ h0 h1
theorem u_setslips_r {A : q_A} {v : Int32} {d e2 : Nat → Nat → Int32} (hO : q_Ok A) (hR : q_Rr A d)  (e : ∀ o k, ¬ (o = 135 ∧ k = 3) → e2 o k = d o k) (n1 : e2 135 3 = v) : q_Rr (A.u_setslips v) e2 := by
  have oF := hO.F; have oL := hO.L; have oH := hO.H; have oN := hO.N; have oK := hO.K; have oT := hO.T; have oB := hO.B
  refine ⟨?_, ?_, ?_, ?_, ?_, ?_, ?_, ?_, ?_, ?_, ?_, ?_, ?_, ?_, ?_, ?_, ?_, ?_, ?_, ?_, ?_, ?_, ?_, ?_, ?_, ?_, ?_, ?_, ?_, ?_, ?_, ?_, ?_, ?_, ?_, ?_, ?_, ?_, ?_, ?_, ?_, ?_, ?_, ?_, ?_, ?_⟩
  · rw [e _ _ (by omega)]; exact hR.out
  · rw [e _ _ (by omega)]; exact hR.on
  · rw [e _ _ (by omega)]; exact hR.hour
  · exact n1
  · rw [e _ _ (by omega)]; exact hR.F
  · rw [e _ _ (by omega)]; exact hR.L
  · rw [e _ _ (by omega)]; exact hR.H
  · rw [e _ _ (by omega)]; exact hR.N
  · rw [e _ _ (by omega)]; exact hR.K
  · rw [e _ _ (by omega)]; exact hR.B
  · rw [e _ _ (by omega)]; exact hR.T
  · rw [e _ _ (by omega)]; exact hR.law
  · rw [e _ _ (by omega)]; exact hR.img
  · rw [e _ _ (by omega)]; exact hR.iout
  · rw [e _ _ (by omega)]; exact hR.ion
  · rw [e _ _ (by omega)]; exact hR.ihour
  · rw [e _ _ (by omega)]; exact hR.islips
  · rw [e _ _ (by omega)]; exact hR.iN
  · rw [e _ _ (by omega)]; exact hR.ilaw
  · intro i (h0 : i < A.F); rw [e _ _ (by omega)]; exact hR.bears _ h0
  · intro i (h0 : i < A.F); rw [e _ _ (by omega)]; exact hR.times _ h0
  · intro l (h0 : l < A.L); rw [e _ _ (by omega)]; exact hR.kind _ h0
  · intro l (h0 : l < A.L); rw [e _ _ (by omega)]; exact hR.pow _ h0
  · intro l (h0 : l < A.L); rw [e _ _ (by omega)]; exact hR.room _ h0
  · intro l (h0 : l < A.L); rw [e _ _ (by omega)]; exact hR.sx _ h0
  · intro l (h0 : l < A.L); rw [e _ _ (by omega)]; exact hR.sy _ h0
  · intro l (h0 : l < A.L); rw [e _ _ (by omega)]; exact hR.more _ h0
  · intro h l (h0 : h < A.H) (h1 : l < A.L); rw [e _ _ (by omega)]; exact hR.fed _ _ h0 h1
  · intro k (h0 : k < 10); rw [e _ _ (by omega)]; exact hR.ao _ h0
  · intro k (h0 : k < 10); rw [e _ _ (by omega)]; exact hR.an _ h0
  · intro k (h0 : k < 10); rw [e _ _ (by omega)]; exact hR.ah _ h0
  · intro k (h0 : k < 10); rw [e _ _ (by omega)]; exact hR.ar _ h0
  · intro k (h0 : k < 10); rw [e _ _ (by omega)]; exact hR.az _ h0
  · intro k (h0 : k < A.K); rw [e _ _ (by omega)]; exact hR.year _ h0
  · intro k l (h0 : k < A.K) (h1 : l < A.L); rw [e _ _ (by omega)]; exact hR.lab _ _ h0 h1
  · intro i (h0 : i < A.B); rw [e _ _ (by omega)]; exact hR.tape _ h0
  · intro t p i (h0 : t < A.T) (h1 : p < 3) (h2 : i < (A.txt t p).length); rw [e _ _ (by omega)]; exact hR.cod _ _ _ h0 h1 h2
  · intro t p (h0 : t < A.T) (h1 : p < 4); rw [e _ _ (by omega)]; exact hR.starts _ _ h0 h1
  · intro k (h0 : k < 10); rw [e _ _ (by omega)]; exact hR.io _ h0
  · intro k (h0 : k < 10); rw [e _ _ (by omega)]; exact hR.inn _ h0
  · intro k (h0 : k < 10); rw [e _ _ (by omega)]; exact hR.ih _ h0
  · intro k (h0 : k < 10); rw [e _ _ (by omega)]; exact hR.ir _ h0
  · intro k (h0 : k < 10); rw [e _ _ (by omega)]; exact hR.iz _ h0
  · intro s (h0 : s < 4); rw [e _ _ (by omega)]; exact hR.sort _ h0
  · intro s (h0 : s < 4); rw [e _ _ (by omega)]; exact hR.size _ h0
  · intro s i (h0 : s < 4) (h1 : i < 40); rw [e _ _ (by omega)]; exact hR.cell _ _ h0 h1
/-! force -/
def q_A.u_force (A : q_A) (t : Nat) : q_A := (A).setN 7 (fun _ _ => t)
theorem u_force_ok {A : q_A} {t : Nat} (hO : q_Ok A) (ht : t < A.T) : q_Ok (A.u_force t) := by
  have oF := hO.F; have oL := hO.L; have oH := hO.H; have oN := hO.N; have oK := hO.K; have oT := hO.T; have oB := hO.B
  refine ⟨?_, ?_, ?_, ?_, ?_, ?_, ?_, ?_, ?_, ?_, ?_, ?_, ?_, ?_, ?_, ?_, ?_, ?_, ?_, ?_, ?_, ?_, ?_, ?_, ?_, ?_, ?_⟩
  · exact hO.F
  · exact hO.L
  · exact hO.H
  · exact hO.K
  · exact hO.T
  · exact hO.T0
  · exact hO.N
  · exact hO.B
  · exact ht
  · exact hO.iN
  · exact hO.ilaw
  · exact hO.img
  · exact hO.kind
  · exact hO.pow
  · exact hO.pow1
  · exact hO.room
  · exact hO.sx
  · exact hO.sy
  · exact hO.more
  · exact hO.fed
  · exact hO.lab
  · exact hO.size
  · exact hO.sort
  · exact hO.tape
  · exact hO.txt
  · exact hO.cok
  · exact hO.txl
theorem u_force_w {A : q_A} {t : Nat} {d e2 : Nat → Nat → Int32} (hO : q_Ok A) (hR : q_Rw A d) (ht : t < A.T) (e : ∀ o k, ¬ (o = 7 ∧ k = 3) → e2 o k = d o k) (n1 : e2 7 3 = nI t) : q_Rw (A.u_force t) e2 := by
  have oF := hO.F; have oL := hO.L; have oH := hO.H; have oN := hO.N; have oK := hO.K; have oT := hO.T; have oB := hO.B
  refine ⟨?_, ?_, ?_, ?_, ?_, ?_, ?_, ?_, ?_, ?_, ?_, ?_, ?_, ?_, ?_, ?_, ?_, ?_, ?_, ?_, ?_, ?_, ?_, ?_, ?_, ?_, ?_, ?_, ?_, ?_, ?_, ?_, ?_, ?_, ?_, ?_, ?_, ?_, ?_, ?_, ?_, ?_, ?_, ?_, ?_, ?_, ?_, ?_, ?_⟩
  · rw [e _ _ (by omega)]; exact hR.F
  · rw [e _ _ (by omega)]; exact hR.L
  · rw [e _ _ (by omega)]; exact hR.H
  · rw [e _ _ (by omega)]; exact hR.K
  · rw [e _ _ (by omega)]; exact hR.T
  · rw [e _ _ (by omega)]; exact hR.img
  · rw [e _ _ (by omega)]; exact hR.N
  · exact n1
  · rw [e _ _ (by omega)]; exact hR.out
  · rw [e _ _ (by omega)]; exact hR.on
  · rw [e _ _ (by omega)]; exact hR.hour
  · rw [e _ _ (by omega)]; exact hR.slips
  · rw [e _ _ (by omega)]; exact hR.iN
  · rw [e _ _ (by omega)]; exact hR.ilaw
  · rw [e _ _ (by omega)]; exact hR.iout
  · rw [e _ _ (by omega)]; exact hR.ion
  · rw [e _ _ (by omega)]; exact hR.ihour
  · rw [e _ _ (by omega)]; exact hR.islips
  · rw [e _ _ (by omega)]; exact hR.B
  · intro i (h0 : i < A.B); rw [e _ _ (by omega)]; exact hR.tape _ h0
  · intro i (h0 : i < A.F); rw [e _ _ (by omega)]; exact hR.bears _ h0
  · intro i (h0 : i < A.F); rw [e _ _ (by omega)]; exact hR.times _ h0
  · intro i (h0 : i < 6); rw [e _ _ (by omega)]; exact hR.lends _ h0
  · intro l (h0 : l < A.L); rw [e _ _ (by omega)]; exact hR.kind _ h0
  · intro l (h0 : l < A.L); rw [e _ _ (by omega)]; exact hR.pow _ h0
  · intro l (h0 : l < A.L); rw [e _ _ (by omega)]; exact hR.room _ h0
  · intro l (h0 : l < A.L); rw [e _ _ (by omega)]; exact hR.sx _ h0
  · intro l (h0 : l < A.L); rw [e _ _ (by omega)]; exact hR.sy _ h0
  · intro l (h0 : l < A.L); rw [e _ _ (by omega)]; exact hR.more _ h0
  · intro h l (h0 : h < A.H) (h1 : l < A.L); rw [e _ _ (by omega)]; exact hR.fed _ _ h0 h1
  · intro h f (h0 : h < A.H) (h1 : f < 6); rw [e _ _ (by omega)]; exact hR.feeds _ _ h0 h1
  · intro h f (h0 : A.H ≤ h) (h1 : h < 12) (h2 : f < 6); rw [e _ _ (by omega)]; exact hR.feeds0 _ _ h0 h1 h2
  · intro k l (h0 : k < A.K) (h1 : l < A.L); rw [e _ _ (by omega)]; exact hR.lab _ _ h0 h1
  · intro k (h0 : k < A.K); rw [e _ _ (by omega)]; exact hR.year _ h0
  · intro k (h0 : k < 10); rw [e _ _ (by omega)]; exact hR.ao _ h0
  · intro k (h0 : k < 10); rw [e _ _ (by omega)]; exact hR.an _ h0
  · intro k (h0 : k < 10); rw [e _ _ (by omega)]; exact hR.ah _ h0
  · intro k (h0 : k < 10); rw [e _ _ (by omega)]; exact hR.ar _ h0
  · intro k (h0 : k < 10); rw [e _ _ (by omega)]; exact hR.az _ h0
  · intro k (h0 : k < 10); rw [e _ _ (by omega)]; exact hR.io _ h0
  · intro k (h0 : k < 10); rw [e _ _ (by omega)]; exact hR.inn _ h0
  · intro k (h0 : k < 10); rw [e _ _ (by omega)]; exact hR.ih _ h0
  · intro k (h0 : k < 10); rw [e _ _ (by omega)]; exact hR.ir _ h0
  · intro k (h0 : k < 10); rw [e _ _ (by omega)]; exact hR.iz _ h0
  · intro t p (h0 : t < A.T) (h1 : p < 3); rw [e _ _ (by omega)]; exact hR.ends _ _ h0 h1
  · intro t p i (h0 : t < A.T) (h1 : p < 3) (h2 : i < (A.txt t p).length); rw [e _ _ (by omega)]; exact hR.stp _ _ _ h0 h1 h2
  · intro s (h0 : s < 4); rw [e _ _ (by omega)]; exact hR.sort _ h0
  · intro s (h0 : s < 4); rw [e _ _ (by omega)]; exact hR.size _ h0
  · intro s i (h0 : s < 4) (h1 : i < 40); rw [e _ _ (by omega)]; exact hR.cell _ _ h0 h1
theorem u_force_r {A : q_A} {t : Nat} {d e2 : Nat → Nat → Int32} (hO : q_Ok A) (hR : q_Rr A d) (ht : t < A.T) (e : ∀ o k, ¬ (o = 135 ∧ k = 30) → e2 o k = d o k) (n1 : e2 135 30 = nI t) : q_Rr (A.u_force t) e2 := by
  have oF := hO.F; have oL := hO.L; have oH := hO.H; have oN := hO.N; have oK := hO.K; have oT := hO.T; have oB := hO.B
  refine ⟨?_, ?_, ?_, ?_, ?_, ?_, ?_, ?_, ?_, ?_, ?_, ?_, ?_, ?_, ?_, ?_, ?_, ?_, ?_, ?_, ?_, ?_, ?_, ?_, ?_, ?_, ?_, ?_, ?_, ?_, ?_, ?_, ?_, ?_, ?_, ?_, ?_, ?_, ?_, ?_, ?_, ?_, ?_, ?_, ?_, ?_⟩
  · rw [e _ _ (by omega)]; exact hR.out
  · rw [e _ _ (by omega)]; exact hR.on
  · rw [e _ _ (by omega)]; exact hR.hour
  · rw [e _ _ (by omega)]; exact hR.slips
  · rw [e _ _ (by omega)]; exact hR.F
  · rw [e _ _ (by omega)]; exact hR.L
  · rw [e _ _ (by omega)]; exact hR.H
  · rw [e _ _ (by omega)]; exact hR.N
  · rw [e _ _ (by omega)]; exact hR.K
  · rw [e _ _ (by omega)]; exact hR.B
  · rw [e _ _ (by omega)]; exact hR.T
  · exact n1
  · rw [e _ _ (by omega)]; exact hR.img
  · rw [e _ _ (by omega)]; exact hR.iout
  · rw [e _ _ (by omega)]; exact hR.ion
  · rw [e _ _ (by omega)]; exact hR.ihour
  · rw [e _ _ (by omega)]; exact hR.islips
  · rw [e _ _ (by omega)]; exact hR.iN
  · rw [e _ _ (by omega)]; exact hR.ilaw
  · intro i (h0 : i < A.F); rw [e _ _ (by omega)]; exact hR.bears _ h0
  · intro i (h0 : i < A.F); rw [e _ _ (by omega)]; exact hR.times _ h0
  · intro l (h0 : l < A.L); rw [e _ _ (by omega)]; exact hR.kind _ h0
  · intro l (h0 : l < A.L); rw [e _ _ (by omega)]; exact hR.pow _ h0
  · intro l (h0 : l < A.L); rw [e _ _ (by omega)]; exact hR.room _ h0
  · intro l (h0 : l < A.L); rw [e _ _ (by omega)]; exact hR.sx _ h0
  · intro l (h0 : l < A.L); rw [e _ _ (by omega)]; exact hR.sy _ h0
  · intro l (h0 : l < A.L); rw [e _ _ (by omega)]; exact hR.more _ h0
  · intro h l (h0 : h < A.H) (h1 : l < A.L); rw [e _ _ (by omega)]; exact hR.fed _ _ h0 h1
  · intro k (h0 : k < 10); rw [e _ _ (by omega)]; exact hR.ao _ h0
  · intro k (h0 : k < 10); rw [e _ _ (by omega)]; exact hR.an _ h0
  · intro k (h0 : k < 10); rw [e _ _ (by omega)]; exact hR.ah _ h0
  · intro k (h0 : k < 10); rw [e _ _ (by omega)]; exact hR.ar _ h0
  · intro k (h0 : k < 10); rw [e _ _ (by omega)]; exact hR.az _ h0
  · intro k (h0 : k < A.K); rw [e _ _ (by omega)]; exact hR.year _ h0
  · intro k l (h0 : k < A.K) (h1 : l < A.L); rw [e _ _ (by omega)]; exact hR.lab _ _ h0 h1
  · intro i (h0 : i < A.B); rw [e _ _ (by omega)]; exact hR.tape _ h0
  · intro t p i (h0 : t < A.T) (h1 : p < 3) (h2 : i < (A.txt t p).length); rw [e _ _ (by omega)]; exact hR.cod _ _ _ h0 h1 h2
  · intro t p (h0 : t < A.T) (h1 : p < 4); rw [e _ _ (by omega)]; exact hR.starts _ _ h0 h1
  · intro k (h0 : k < 10); rw [e _ _ (by omega)]; exact hR.io _ h0
  · intro k (h0 : k < 10); rw [e _ _ (by omega)]; exact hR.inn _ h0
  · intro k (h0 : k < 10); rw [e _ _ (by omega)]; exact hR.ih _ h0
  · intro k (h0 : k < 10); rw [e _ _ (by omega)]; exact hR.ir _ h0
  · intro k (h0 : k < 10); rw [e _ _ (by omega)]; exact hR.iz _ h0
  · intro s (h0 : s < 4); rw [e _ _ (by omega)]; exact hR.sort _ h0
  · intro s (h0 : s < 4); rw [e _ _ (by omega)]; exact hR.size _ h0
  · intro s i (h0 : s < 4) (h1 : i < 40); rw [e _ _ (by omega)]; exact hR.cell _ _ h0 h1
/-! ask -/
def q_A.u_ask (A : q_A) (r z : Int32) : q_A := ((((((A).setN 5 (fun _ _ => A.N + 1)).setI 7 (fun i _ => if i = A.N then A.out else A.ao i)).setI 8 (fun i _ => if i = A.N then A.on else A.an i)).setI 9 (fun i _ => if i = A.N then A.hour else A.ah i)).setI 10 (fun i _ => if i = A.N then r else A.ar i)).setI 11 (fun i _ => if i = A.N then z else A.az i)
theorem u_ask_ok {A : q_A} {r z : Int32} (hO : q_Ok A) (hN : A.N < 10) : q_Ok (A.u_ask r z) := by
  have oF := hO.F; have oL := hO.L; have oH := hO.H; have oN := hO.N; have oK := hO.K; have oT := hO.T; have oB := hO.B
  refine ⟨?_, ?_, ?_, ?_, ?_, ?_, ?_, ?_, ?_, ?_, ?_, ?_, ?_, ?_, ?_, ?_, ?_, ?_, ?_, ?_, ?_, ?_, ?_, ?_, ?_, ?_, ?_⟩
  · exact hO.F
  · exact hO.L
  · exact hO.H
  · exact hO.K
  · exact hO.T
  · exact hO.T0
  · exact hN
  · exact hO.B
  · exact hO.law
  · exact hO.iN
  · exact hO.ilaw
  · exact hO.img
  · exact hO.kind
  · exact hO.pow
  · exact hO.pow1
  · exact hO.room
  · exact hO.sx
  · exact hO.sy
  · exact hO.more
  · exact hO.fed
  · exact hO.lab
  · exact hO.size
  · exact hO.sort
  · exact hO.tape
  · exact hO.txt
  · exact hO.cok
  · exact hO.txl
theorem u_ask_w {A : q_A} {r z : Int32} {d e2 : Nat → Nat → Int32} (hO : q_Ok A) (hR : q_Rw A d) (hN : A.N < 10) (e : ∀ o k, o ≠ 10 + A.N ∧ ¬ (o = 7 ∧ k = 2) → e2 o k = d o k) (n0 : e2 (10 + A.N) 0 = A.out) (n1 : e2 (10 + A.N) 1 = A.on) (n2 : e2 (10 + A.N) 2 = A.hour) (n3 : e2 (10 + A.N) 3 = r) (n4 : e2 (10 + A.N) 4 = z) (n5 : e2 7 2 = nI (A.N + 1)) : q_Rw (A.u_ask r z) e2 := by
  have oF := hO.F; have oL := hO.L; have oH := hO.H; have oN := hO.N; have oK := hO.K; have oT := hO.T; have oB := hO.B
  refine ⟨?_, ?_, ?_, ?_, ?_, ?_, ?_, ?_, ?_, ?_, ?_, ?_, ?_, ?_, ?_, ?_, ?_, ?_, ?_, ?_, ?_, ?_, ?_, ?_, ?_, ?_, ?_, ?_, ?_, ?_, ?_, ?_, ?_, ?_, ?_, ?_, ?_, ?_, ?_, ?_, ?_, ?_, ?_, ?_, ?_, ?_, ?_, ?_, ?_⟩
  · rw [e _ _ (by omega)]; exact hR.F
  · rw [e _ _ (by omega)]; exact hR.L
  · rw [e _ _ (by omega)]; exact hR.H
  · rw [e _ _ (by omega)]; exact hR.K
  · rw [e _ _ (by omega)]; exact hR.T
  · rw [e _ _ (by omega)]; exact hR.img
  · exact n5
  · rw [e _ _ (by omega)]; exact hR.law
  · rw [e _ _ (by omega)]; exact hR.out
  · rw [e _ _ (by omega)]; exact hR.on
  · rw [e _ _ (by omega)]; exact hR.hour
  · rw [e _ _ (by omega)]; exact hR.slips
  · rw [e _ _ (by omega)]; exact hR.iN
  · rw [e _ _ (by omega)]; exact hR.ilaw
  · rw [e _ _ (by omega)]; exact hR.iout
  · rw [e _ _ (by omega)]; exact hR.ion
  · rw [e _ _ (by omega)]; exact hR.ihour
  · rw [e _ _ (by omega)]; exact hR.islips
  · rw [e _ _ (by omega)]; exact hR.B
  · intro i (h0 : i < A.B); rw [e _ _ (by omega)]; exact hR.tape _ h0
  · intro i (h0 : i < A.F); rw [e _ _ (by omega)]; exact hR.bears _ h0
  · intro i (h0 : i < A.F); rw [e _ _ (by omega)]; exact hR.times _ h0
  · intro i (h0 : i < 6); rw [e _ _ (by omega)]; exact hR.lends _ h0
  · intro l (h0 : l < A.L); rw [e _ _ (by omega)]; exact hR.kind _ h0
  · intro l (h0 : l < A.L); rw [e _ _ (by omega)]; exact hR.pow _ h0
  · intro l (h0 : l < A.L); rw [e _ _ (by omega)]; exact hR.room _ h0
  · intro l (h0 : l < A.L); rw [e _ _ (by omega)]; exact hR.sx _ h0
  · intro l (h0 : l < A.L); rw [e _ _ (by omega)]; exact hR.sy _ h0
  · intro l (h0 : l < A.L); rw [e _ _ (by omega)]; exact hR.more _ h0
  · intro h l (h0 : h < A.H) (h1 : l < A.L); rw [e _ _ (by omega)]; exact hR.fed _ _ h0 h1
  · intro h f (h0 : h < A.H) (h1 : f < 6); rw [e _ _ (by omega)]; exact hR.feeds _ _ h0 h1
  · intro h f (h0 : A.H ≤ h) (h1 : h < 12) (h2 : f < 6); rw [e _ _ (by omega)]; exact hR.feeds0 _ _ h0 h1 h2
  · intro k l (h0 : k < A.K) (h1 : l < A.L); rw [e _ _ (by omega)]; exact hR.lab _ _ h0 h1
  · intro k (h0 : k < A.K); rw [e _ _ (by omega)]; exact hR.year _ h0
  · intro i (h0 : i < 10)
    by_cases e0 : i = A.N
    · subst e0
      rw [n0]
      exact (if_pos rfl).symm
    · rw [e _ _ (by omega), hR.ao i h0]
      exact (if_neg e0).symm
  · intro i (h0 : i < 10)
    by_cases e0 : i = A.N
    · subst e0
      rw [n1]
      exact (if_pos rfl).symm
    · rw [e _ _ (by omega), hR.an i h0]
      exact (if_neg e0).symm
  · intro i (h0 : i < 10)
    by_cases e0 : i = A.N
    · subst e0
      rw [n2]
      exact (if_pos rfl).symm
    · rw [e _ _ (by omega), hR.ah i h0]
      exact (if_neg e0).symm
  · intro i (h0 : i < 10)
    by_cases e0 : i = A.N
    · subst e0
      rw [n3]
      exact (if_pos rfl).symm
    · rw [e _ _ (by omega), hR.ar i h0]
      exact (if_neg e0).symm
  · intro i (h0 : i < 10)
    by_cases e0 : i = A.N
    · subst e0
      rw [n4]
      exact (if_pos rfl).symm
    · rw [e _ _ (by omega), hR.az i h0]
      exact (if_neg e0).symm
  · intro k (h0 : k < 10); rw [e _ _ (by omega)]; exact hR.io _ h0
  · intro k (h0 : k < 10); rw [e _ _ (by omega)]; exact hR.inn _ h0
  · intro k (h0 : k < 10); rw [e _ _ (by omega)]; exact hR.ih _ h0
  · intro k (h0 : k < 10); rw [e _ _ (by omega)]; exact hR.ir _ h0
  · intro k (h0 : k < 10); rw [e _ _ (by omega)]; exact hR.iz _ h0
  · intro t p (h0 : t < A.T) (h1 : p < 3); rw [e _ _ (by omega)]; exact hR.ends _ _ h0 h1
  · intro t p i (h0 : t < A.T) (h1 : p < 3) (h2 : i < (A.txt t p).length); rw [e _ _ (by omega)]; exact hR.stp _ _ _ h0 h1 h2
  · intro s (h0 : s < 4); rw [e _ _ (by omega)]; exact hR.sort _ h0
  · intro s (h0 : s < 4); rw [e _ _ (by omega)]; exact hR.size _ h0
  · intro s i (h0 : s < 4) (h1 : i < 40); rw [e _ _ (by omega)]; exact hR.cell _ _ h0 h1
theorem u_ask_r {A : q_A} {r z : Int32} {d e2 : Nat → Nat → Int32} (hO : q_Ok A) (hR : q_Rr A d) (hN : A.N < 10) (e : ∀ o k, ¬ (145 ≤ o ∧ o ≤ 149 ∧ k = A.N) ∧ ¬ (o = 135 ∧ k = 16) → e2 o k = d o k) (n0 : e2 145 A.N = A.out) (n1 : e2 146 A.N = A.on) (n2 : e2 147 A.N = A.hour) (n3 : e2 148 A.N = r) (n4 : e2 149 A.N = z) (n5 : e2 135 16 = nI (A.N + 1)) : q_Rr (A.u_ask r z) e2 := by
  have oF := hO.F; have oL := hO.L; have oH := hO.H; have oN := hO.N; have oK := hO.K; have oT := hO.T; have oB := hO.B
  refine ⟨?_, ?_, ?_, ?_, ?_, ?_, ?_, ?_, ?_, ?_, ?_, ?_, ?_, ?_, ?_, ?_, ?_, ?_, ?_, ?_, ?_, ?_, ?_, ?_, ?_, ?_, ?_, ?_, ?_, ?_, ?_, ?_, ?_, ?_, ?_, ?_, ?_, ?_, ?_, ?_, ?_, ?_, ?_, ?_, ?_, ?_⟩
  · rw [e _ _ (by omega)]; exact hR.out
  · rw [e _ _ (by omega)]; exact hR.on
  · rw [e _ _ (by omega)]; exact hR.hour
  · rw [e _ _ (by omega)]; exact hR.slips
  · rw [e _ _ (by omega)]; exact hR.F
  · rw [e _ _ (by omega)]; exact hR.L
  · rw [e _ _ (by omega)]; exact hR.H
  · exact n5
  · rw [e _ _ (by omega)]; exact hR.K
  · rw [e _ _ (by omega)]; exact hR.B
  · rw [e _ _ (by omega)]; exact hR.T
  · rw [e _ _ (by omega)]; exact hR.law
  · rw [e _ _ (by omega)]; exact hR.img
  · rw [e _ _ (by omega)]; exact hR.iout
  · rw [e _ _ (by omega)]; exact hR.ion
  · rw [e _ _ (by omega)]; exact hR.ihour
  · rw [e _ _ (by omega)]; exact hR.islips
  · rw [e _ _ (by omega)]; exact hR.iN
  · rw [e _ _ (by omega)]; exact hR.ilaw
  · intro i (h0 : i < A.F); rw [e _ _ (by omega)]; exact hR.bears _ h0
  · intro i (h0 : i < A.F); rw [e _ _ (by omega)]; exact hR.times _ h0
  · intro l (h0 : l < A.L); rw [e _ _ (by omega)]; exact hR.kind _ h0
  · intro l (h0 : l < A.L); rw [e _ _ (by omega)]; exact hR.pow _ h0
  · intro l (h0 : l < A.L); rw [e _ _ (by omega)]; exact hR.room _ h0
  · intro l (h0 : l < A.L); rw [e _ _ (by omega)]; exact hR.sx _ h0
  · intro l (h0 : l < A.L); rw [e _ _ (by omega)]; exact hR.sy _ h0
  · intro l (h0 : l < A.L); rw [e _ _ (by omega)]; exact hR.more _ h0
  · intro h l (h0 : h < A.H) (h1 : l < A.L); rw [e _ _ (by omega)]; exact hR.fed _ _ h0 h1
  · intro i (h0 : i < 10)
    by_cases e0 : i = A.N
    · subst e0
      rw [n0]
      exact (if_pos rfl).symm
    · rw [e _ _ (by omega), hR.ao i h0]
      exact (if_neg e0).symm
  · intro i (h0 : i < 10)
    by_cases e0 : i = A.N
    · subst e0
      rw [n1]
      exact (if_pos rfl).symm
    · rw [e _ _ (by omega), hR.an i h0]
      exact (if_neg e0).symm
  · intro i (h0 : i < 10)
    by_cases e0 : i = A.N
    · subst e0
      rw [n2]
      exact (if_pos rfl).symm
    · rw [e _ _ (by omega), hR.ah i h0]
      exact (if_neg e0).symm
  · intro i (h0 : i < 10)
    by_cases e0 : i = A.N
    · subst e0
      rw [n3]
      exact (if_pos rfl).symm
    · rw [e _ _ (by omega), hR.ar i h0]
      exact (if_neg e0).symm
  · intro i (h0 : i < 10)
    by_cases e0 : i = A.N
    · subst e0
      rw [n4]
      exact (if_pos rfl).symm
    · rw [e _ _ (by omega), hR.az i h0]
      exact (if_neg e0).symm
  · intro k (h0 : k < A.K); rw [e _ _ (by omega)]; exact hR.year _ h0
  · intro k l (h0 : k < A.K) (h1 : l < A.L); rw [e _ _ (by omega)]; exact hR.lab _ _ h0 h1
  · intro i (h0 : i < A.B); rw [e _ _ (by omega)]; exact hR.tape _ h0
  · intro t p i (h0 : t < A.T) (h1 : p < 3) (h2 : i < (A.txt t p).length); rw [e _ _ (by omega)]; exact hR.cod _ _ _ h0 h1 h2
  · intro t p (h0 : t < A.T) (h1 : p < 4); rw [e _ _ (by omega)]; exact hR.starts _ _ h0 h1
  · intro k (h0 : k < 10); rw [e _ _ (by omega)]; exact hR.io _ h0
  · intro k (h0 : k < 10); rw [e _ _ (by omega)]; exact hR.inn _ h0
  · intro k (h0 : k < 10); rw [e _ _ (by omega)]; exact hR.ih _ h0
  · intro k (h0 : k < 10); rw [e _ _ (by omega)]; exact hR.ir _ h0
  · intro k (h0 : k < 10); rw [e _ _ (by omega)]; exact hR.iz _ h0
  · intro s (h0 : s < 4); rw [e _ _ (by omega)]; exact hR.sort _ h0
  · intro s (h0 : s < 4); rw [e _ _ (by omega)]; exact hR.size _ h0
  · intro s i (h0 : s < 4) (h1 : i < 40); rw [e _ _ (by omega)]; exact hR.cell _ _ h0 h1
/-! forget -/
def q_A.u_forget (A : q_A)  : q_A := (A).setN 5 (fun _ _ => (A.N - 1))
theorem u_forget_ok {A : q_A}  (hO : q_Ok A)  : q_Ok (A.u_forget) := by
  have oF := hO.F; have oL := hO.L; have oH := hO.H; have oN := hO.N; have oK := hO.K; have oT := hO.T; have oB := hO.B
  refine ⟨?_, ?_, ?_, ?_, ?_, ?_, ?_, ?_, ?_, ?_, ?_, ?_, ?_, ?_, ?_, ?_, ?_, ?_, ?_, ?_, ?_, ?_, ?_, ?_, ?_, ?_, ?_⟩
  · exact hO.F
  · exact hO.L
  · exact hO.H
  · exact hO.K
  · exact hO.T
  · exact hO.T0
  · exact Nat.le_trans (Nat.sub_le _ _) oN
  · exact hO.B
  · exact hO.law
  · exact hO.iN
  · exact hO.ilaw
  · exact hO.img
  · exact hO.kind
  · exact hO.pow
  · exact hO.pow1
  · exact hO.room
  · exact hO.sx
  · exact hO.sy
  · exact hO.more
  · exact hO.fed
  · exact hO.lab
  · exact hO.size
  · exact hO.sort
  · exact hO.tape
  · exact hO.txt
  · exact hO.cok
  · exact hO.txl
theorem u_forget_w {A : q_A}  {d e2 : Nat → Nat → Int32} (hO : q_Ok A) (hR : q_Rw A d)  (e : ∀ o k, ¬ (o = 7 ∧ k = 2) → e2 o k = d o k) (n1 : e2 7 2 = nI (A.N - 1)) : q_Rw (A.u_forget) e2 := by
  have oF := hO.F; have oL := hO.L; have oH := hO.H; have oN := hO.N; have oK := hO.K; have oT := hO.T; have oB := hO.B
  refine ⟨?_, ?_, ?_, ?_, ?_, ?_, ?_, ?_, ?_, ?_, ?_, ?_, ?_, ?_, ?_, ?_, ?_, ?_, ?_, ?_, ?_, ?_, ?_, ?_, ?_, ?_, ?_, ?_, ?_, ?_, ?_, ?_, ?_, ?_, ?_, ?_, ?_, ?_, ?_, ?_, ?_, ?_, ?_, ?_, ?_, ?_, ?_, ?_, ?_⟩
  · rw [e _ _ (by omega)]; exact hR.F
  · rw [e _ _ (by omega)]; exact hR.L
  · rw [e _ _ (by omega)]; exact hR.H
  · rw [e _ _ (by omega)]; exact hR.K
  · rw [e _ _ (by omega)]; exact hR.T
  · rw [e _ _ (by omega)]; exact hR.img
  · exact n1
  · rw [e _ _ (by omega)]; exact hR.law
  · rw [e _ _ (by omega)]; exact hR.out
  · rw [e _ _ (by omega)]; exact hR.on
  · rw [e _ _ (by omega)]; exact hR.hour
  · rw [e _ _ (by omega)]; exact hR.slips
  · rw [e _ _ (by omega)]; exact hR.iN
  · rw [e _ _ (by omega)]; exact hR.ilaw
  · rw [e _ _ (by omega)]; exact hR.iout
  · rw [e _ _ (by omega)]; exact hR.ion
  · rw [e _ _ (by omega)]; exact hR.ihour
  · rw [e _ _ (by omega)]; exact hR.islips
  · rw [e _ _ (by omega)]; exact hR.B
  · intro i (h0 : i < A.B); rw [e _ _ (by omega)]; exact hR.tape _ h0
  · intro i (h0 : i < A.F); rw [e _ _ (by omega)]; exact hR.bears _ h0
  · intro i (h0 : i < A.F); rw [e _ _ (by omega)]; exact hR.times _ h0
  · intro i (h0 : i < 6); rw [e _ _ (by omega)]; exact hR.lends _ h0
  · intro l (h0 : l < A.L); rw [e _ _ (by omega)]; exact hR.kind _ h0
  · intro l (h0 : l < A.L); rw [e _ _ (by omega)]; exact hR.pow _ h0
  · intro l (h0 : l < A.L); rw [e _ _ (by omega)]; exact hR.room _ h0
  · intro l (h0 : l < A.L); rw [e _ _ (by omega)]; exact hR.sx _ h0
  · intro l (h0 : l < A.L); rw [e _ _ (by omega)]; exact hR.sy _ h0
  · intro l (h0 : l < A.L); rw [e _ _ (by omega)]; exact hR.more _ h0
  · intro h l (h0 : h < A.H) (h1 : l < A.L); rw [e _ _ (by omega)]; exact hR.fed _ _ h0 h1
  · intro h f (h0 : h < A.H) (h1 : f < 6); rw [e _ _ (by omega)]; exact hR.feeds _ _ h0 h1
  · intro h f (h0 : A.H ≤ h) (h1 : h < 12) (h2 : f < 6); rw [e _ _ (by omega)]; exact hR.feeds0 _ _ h0 h1 h2
  · intro k l (h0 : k < A.K) (h1 : l < A.L); rw [e _ _ (by omega)]; exact hR.lab _ _ h0 h1
  · intro k (h0 : k < A.K); rw [e _ _ (by omega)]; exact hR.year _ h0
  · intro k (h0 : k < 10); rw [e _ _ (by omega)]; exact hR.ao _ h0
  · intro k (h0 : k < 10); rw [e _ _ (by omega)]; exact hR.an _ h0
  · intro k (h0 : k < 10); rw [e _ _ (by omega)]; exact hR.ah _ h0
  · intro k (h0 : k < 10); rw [e _ _ (by omega)]; exact hR.ar _ h0
  · intro k (h0 : k < 10); rw [e _ _ (by omega)]; exact hR.az _ h0
  · intro k (h0 : k < 10); rw [e _ _ (by omega)]; exact hR.io _ h0
  · intro k (h0 : k < 10); rw [e _ _ (by omega)]; exact hR.inn _ h0
  · intro k (h0 : k < 10); rw [e _ _ (by omega)]; exact hR.ih _ h0
  · intro k (h0 : k < 10); rw [e _ _ (by omega)]; exact hR.ir _ h0
  · intro k (h0 : k < 10); rw [e _ _ (by omega)]; exact hR.iz _ h0
  · intro t p (h0 : t < A.T) (h1 : p < 3); rw [e _ _ (by omega)]; exact hR.ends _ _ h0 h1
  · intro t p i (h0 : t < A.T) (h1 : p < 3) (h2 : i < (A.txt t p).length); rw [e _ _ (by omega)]; exact hR.stp _ _ _ h0 h1 h2
  · intro s (h0 : s < 4); rw [e _ _ (by omega)]; exact hR.sort _ h0
  · intro s (h0 : s < 4); rw [e _ _ (by omega)]; exact hR.size _ h0
  · intro s i (h0 : s < 4) (h1 : i < 40); rw [e _ _ (by omega)]; exact hR.cell _ _ h0 h1
theorem u_forget_r {A : q_A}  {d e2 : Nat → Nat → Int32} (hO : q_Ok A) (hR : q_Rr A d)  (e : ∀ o k, ¬ (o = 135 ∧ k = 16) → e2 o k = d o k) (n1 : e2 135 16 = nI (A.N - 1)) : q_Rr (A.u_forget) e2 := by
  have oF := hO.F; have oL := hO.L; have oH := hO.H; have oN := hO.N; have oK := hO.K; have oT := hO.T; have oB := hO.B
  refine ⟨?_, ?_, ?_, ?_, ?_, ?_, ?_, ?_, ?_, ?_, ?_, ?_, ?_, ?_, ?_, ?_, ?_, ?_, ?_, ?_, ?_, ?_, ?_, ?_, ?_, ?_, ?_, ?_, ?_, ?_, ?_, ?_, ?_, ?_, ?_, ?_, ?_, ?_, ?_, ?_, ?_, ?_, ?_, ?_, ?_, ?_⟩
  · rw [e _ _ (by omega)]; exact hR.out
  · rw [e _ _ (by omega)]; exact hR.on
  · rw [e _ _ (by omega)]; exact hR.hour
  · rw [e _ _ (by omega)]; exact hR.slips
  · rw [e _ _ (by omega)]; exact hR.F
  · rw [e _ _ (by omega)]; exact hR.L
  · rw [e _ _ (by omega)]; exact hR.H
  · exact n1
  · rw [e _ _ (by omega)]; exact hR.K
  · rw [e _ _ (by omega)]; exact hR.B
  · rw [e _ _ (by omega)]; exact hR.T
  · rw [e _ _ (by omega)]; exact hR.law
  · rw [e _ _ (by omega)]; exact hR.img
  · rw [e _ _ (by omega)]; exact hR.iout
  · rw [e _ _ (by omega)]; exact hR.ion
  · rw [e _ _ (by omega)]; exact hR.ihour
  · rw [e _ _ (by omega)]; exact hR.islips
  · rw [e _ _ (by omega)]; exact hR.iN
  · rw [e _ _ (by omega)]; exact hR.ilaw
  · intro i (h0 : i < A.F); rw [e _ _ (by omega)]; exact hR.bears _ h0
  · intro i (h0 : i < A.F); rw [e _ _ (by omega)]; exact hR.times _ h0
  · intro l (h0 : l < A.L); rw [e _ _ (by omega)]; exact hR.kind _ h0
  · intro l (h0 : l < A.L); rw [e _ _ (by omega)]; exact hR.pow _ h0
  · intro l (h0 : l < A.L); rw [e _ _ (by omega)]; exact hR.room _ h0
  · intro l (h0 : l < A.L); rw [e _ _ (by omega)]; exact hR.sx _ h0
  · intro l (h0 : l < A.L); rw [e _ _ (by omega)]; exact hR.sy _ h0
  · intro l (h0 : l < A.L); rw [e _ _ (by omega)]; exact hR.more _ h0
  · intro h l (h0 : h < A.H) (h1 : l < A.L); rw [e _ _ (by omega)]; exact hR.fed _ _ h0 h1
  · intro k (h0 : k < 10); rw [e _ _ (by omega)]; exact hR.ao _ h0
  · intro k (h0 : k < 10); rw [e _ _ (by omega)]; exact hR.an _ h0
  · intro k (h0 : k < 10); rw [e _ _ (by omega)]; exact hR.ah _ h0
  · intro k (h0 : k < 10); rw [e _ _ (by omega)]; exact hR.ar _ h0
  · intro k (h0 : k < 10); rw [e _ _ (by omega)]; exact hR.az _ h0
  · intro k (h0 : k < A.K); rw [e _ _ (by omega)]; exact hR.year _ h0
  · intro k l (h0 : k < A.K) (h1 : l < A.L); rw [e _ _ (by omega)]; exact hR.lab _ _ h0 h1
  · intro i (h0 : i < A.B); rw [e _ _ (by omega)]; exact hR.tape _ h0
  · intro t p i (h0 : t < A.T) (h1 : p < 3) (h2 : i < (A.txt t p).length); rw [e _ _ (by omega)]; exact hR.cod _ _ _ h0 h1 h2
  · intro t p (h0 : t < A.T) (h1 : p < 4); rw [e _ _ (by omega)]; exact hR.starts _ _ h0 h1
  · intro k (h0 : k < 10); rw [e _ _ (by omega)]; exact hR.io _ h0
  · intro k (h0 : k < 10); rw [e _ _ (by omega)]; exact hR.inn _ h0
  · intro k (h0 : k < 10); rw [e _ _ (by omega)]; exact hR.ih _ h0
  · intro k (h0 : k < 10); rw [e _ _ (by omega)]; exact hR.ir _ h0
  · intro k (h0 : k < 10); rw [e _ _ (by omega)]; exact hR.iz _ h0
  · intro s (h0 : s < 4); rw [e _ _ (by omega)]; exact hR.sort _ h0
  · intro s (h0 : s < 4); rw [e _ _ (by omega)]; exact hR.size _ h0
  · intro s i (h0 : s < 4) (h1 : i < 40); rw [e _ _ (by omega)]; exact hR.cell _ _ h0 h1
/-! sheet -/
def q_A.u_sheet (A : q_A) (s : Nat) (t : Int32) (n : Nat) (c : Nat → Int32) : q_A := (((A).setI 22 (fun i _ => if i = s then t else A.sort i)).setN 18 (fun i _ => if i = s then n else A.size i)).setI 23 (fun i j => if i = s then c j else A.cell i j)
theorem u_sheet_ok {A : q_A} {s : Nat} {t : Int32} {n : Nat} {c : Nat → Int32} (hO : q_Ok A) (hs : s < 4) (hn : n ≤ 40) (ht : (t = -1 ∧ n = 0) ∨ t = 0 ∨ t = 1 ∨ t = 2) : q_Ok (A.u_sheet s t n c) := by
  have oF := hO.F; have oL := hO.L; have oH := hO.H; have oN := hO.N; have oK := hO.K; have oT := hO.T; have oB := hO.B
  refine ⟨?_, ?_, ?_, ?_, ?_, ?_, ?_, ?_, ?_, ?_, ?_, ?_, ?_, ?_, ?_, ?_, ?_, ?_, ?_, ?_, ?_, ?_, ?_, ?_, ?_, ?_, ?_⟩
  · exact hO.F
  · exact hO.L
  · exact hO.H
  · exact hO.K
  · exact hO.T
  · exact hO.T0
  · exact hO.N
  · exact hO.B
  · exact hO.law
  · exact hO.iN
  · exact hO.ilaw
  · exact hO.img
  · exact hO.kind
  · exact hO.pow
  · exact hO.pow1
  · exact hO.room
  · exact hO.sx
  · exact hO.sy
  · exact hO.more
  · exact hO.fed
  · exact hO.lab
  · intro i h0
    show (if i = s then n else A.size i) ≤ 40
    by_cases e0 : i = s
    · rw [if_pos e0]; exact hn
    · rw [if_neg e0]; exact hO.size i h0
  · intro i h0
    show ((if i = s then t else A.sort i) = -1 ∧ (if i = s then n else A.size i) = 0) ∨ (if i = s then t else A.sort i) = 0 ∨ (if i = s then t else A.sort i) = 1 ∨ (if i = s then t else A.sort i) = 2
    by_cases e0 : i = s
    · rw [if_pos e0, if_pos e0]; exact ht
    · rw [if_neg e0, if_neg e0]; exact hO.sort i h0
  · exact hO.tape
  · exact hO.txt
  · exact hO.cok
  · exact hO.txl
theorem u_sheet_w {A : q_A} {s : Nat} {t : Int32} {n : Nat} {c : Nat → Int32} {d e2 : Nat → Nat → Int32} (hO : q_Ok A) (hR : q_Rw A d) (hs : s < 4) (hn : n ≤ 40) (ht : (t = -1 ∧ n = 0) ∨ t = 0 ∨ t = 1 ∨ t = 2) (e : ∀ o k, ¬ (o = 127 + 2 * s ∧ 1 ≤ k ∧ k ≤ 2) ∧ o ≠ 128 + 2 * s → e2 o k = d o k) (n1 : e2 (127 + 2 * s) 1 = t) (n2 : e2 (127 + 2 * s) 2 = nI n) (n3 : ∀ j, j < 40 → e2 (128 + 2 * s) j = c j) : q_Rw (A.u_sheet s t n c) e2 := by
  have oF := hO.F; have oL := hO.L; have oH := hO.H; have oN := hO.N; have oK := hO.K; have oT := hO.T; have oB := hO.B
  refine ⟨?_, ?_, ?_, ?_, ?_, ?_, ?_, ?_, ?_, ?_, ?_, ?_, ?_, ?_, ?_, ?_, ?_, ?_, ?_, ?_, ?_, ?_, ?_, ?_, ?_, ?_, ?_, ?_, ?_, ?_, ?_, ?_, ?_, ?_, ?_, ?_, ?_, ?_, ?_, ?_, ?_, ?_, ?_, ?_, ?_, ?_, ?_, ?_, ?_⟩
  · rw [e _ _ (by omega)]; exact hR.F
  · rw [e _ _ (by omega)]; exact hR.L
  · rw [e _ _ (by omega)]; exact hR.H
  · rw [e _ _ (by omega)]; exact hR.K
  · rw [e _ _ (by omega)]; exact hR.T
  · rw [e _ _ (by omega)]; exact hR.img
  · rw [e _ _ (by omega)]; exact hR.N
  · rw [e _ _ (by omega)]; exact hR.law
  · rw [e _ _ (by omega)]; exact hR.out
  · rw [e _ _ (by omega)]; exact hR.on
  · rw [e _ _ (by omega)]; exact hR.hour
  · rw [e _ _ (by omega)]; exact hR.slips
  · rw [e _ _ (by omega)]; exact hR.iN
  · rw [e _ _ (by omega)]; exact hR.ilaw
  · rw [e _ _ (by omega)]; exact hR.iout
  · rw [e _ _ (by omega)]; exact hR.ion
  · rw [e _ _ (by omega)]; exact hR.ihour
  · rw [e _ _ (by omega)]; exact hR.islips
  · rw [e _ _ (by omega)]; exact hR.B
  · intro i (h0 : i < A.B); rw [e _ _ (by omega)]; exact hR.tape _ h0
  · intro i (h0 : i < A.F); rw [e _ _ (by omega)]; exact hR.bears _ h0
  · intro i (h0 : i < A.F); rw [e _ _ (by omega)]; exact hR.times _ h0
  · intro i (h0 : i < 6); rw [e _ _ (by omega)]; exact hR.lends _ h0
  · intro l (h0 : l < A.L); rw [e _ _ (by omega)]; exact hR.kind _ h0
  · intro l (h0 : l < A.L); rw [e _ _ (by omega)]; exact hR.pow _ h0
  · intro l (h0 : l < A.L); rw [e _ _ (by omega)]; exact hR.room _ h0
  · intro l (h0 : l < A.L); rw [e _ _ (by omega)]; exact hR.sx _ h0
  · intro l (h0 : l < A.L); rw [e _ _ (by omega)]; exact hR.sy _ h0
  · intro l (h0 : l < A.L); rw [e _ _ (by omega)]; exact hR.more _ h0
  · intro h l (h0 : h < A.H) (h1 : l < A.L); rw [e _ _ (by omega)]; exact hR.fed _ _ h0 h1
  · intro h f (h0 : h < A.H) (h1 : f < 6); rw [e _ _ (by omega)]; exact hR.feeds _ _ h0 h1
  · intro h f (h0 : A.H ≤ h) (h1 : h < 12) (h2 : f < 6); rw [e _ _ (by omega)]; exact hR.feeds0 _ _ h0 h1 h2
  · intro k l (h0 : k < A.K) (h1 : l < A.L); rw [e _ _ (by omega)]; exact hR.lab _ _ h0 h1
  · intro k (h0 : k < A.K); rw [e _ _ (by omega)]; exact hR.year _ h0
  · intro k (h0 : k < 10); rw [e _ _ (by omega)]; exact hR.ao _ h0
  · intro k (h0 : k < 10); rw [e _ _ (by omega)]; exact hR.an _ h0
  · intro k (h0 : k < 10); rw [e _ _ (by omega)]; exact hR.ah _ h0
  · intro k (h0 : k < 10); rw [e _ _ (by omega)]; exact hR.ar _ h0
  · intro k (h0 : k < 10); rw [e _ _ (by omega)]; exact hR.az _ h0
  · intro k (h0 : k < 10); rw [e _ _ (by omega)]; exact hR.io _ h0
  · intro k (h0 : k < 10); rw [e _ _ (by omega)]; exact hR.inn _ h0
  · intro k (h0 : k < 10); rw [e _ _ (by omega)]; exact hR.ih _ h0
  · intro k (h0 : k < 10); rw [e _ _ (by omega)]; exact hR.ir _ h0
  · intro k (h0 : k < 10); rw [e _ _ (by omega)]; exact hR.iz _ h0
  · intro t p (h0 : t < A.T) (h1 : p < 3); rw [e _ _ (by omega)]; exact hR.ends _ _ h0 h1
  · intro t p i (h0 : t < A.T) (h1 : p < 3) (h2 : i < (A.txt t p).length); rw [e _ _ (by omega)]; exact hR.stp _ _ _ h0 h1 h2
  · intro i (h0 : i < 4)
    by_cases e0 : i = s
    · subst e0
      rw [n1]
      exact (if_pos rfl).symm
    · rw [e _ _ (by omega), hR.sort i h0]
      exact (if_neg e0).symm
  · intro i (h0 : i < 4)
    by_cases e0 : i = s
    · subst e0
      rw [n2]
      exact congrArg nI (if_pos rfl).symm
    · rw [e _ _ (by omega), hR.size i h0]
      exact congrArg nI (if_neg e0).symm
  · intro i j (h0 : i < 4) (h1 : j < 40)
    by_cases e0 : i = s
    · subst e0
      rw [n3 j h1]
      exact (if_pos rfl).symm
    · rw [e _ _ (by omega), hR.cell i j h0 h1]
      exact (if_neg e0).symm
theorem u_sheet_r {A : q_A} {s : Nat} {t : Int32} {n : Nat} {c : Nat → Int32} {d e2 : Nat → Nat → Int32} (hO : q_Ok A) (hR : q_Rr A d) (hs : s < 4) (hn : n ≤ 40) (ht : (t = -1 ∧ n = 0) ∨ t = 0 ∨ t = 1 ∨ t = 2) (e : ∀ o k, ¬ (160 ≤ o ∧ o ≤ 161 ∧ k = s) ∧ ¬ (o = 162 ∧ 40 * s ≤ k ∧ k < 40 * s + 40) → e2 o k = d o k) (n1 : e2 160 s = t) (n2 : e2 161 s = nI n) (n3 : ∀ j, j < 40 → e2 162 (40 * s + j) = c j) : q_Rr (A.u_sheet s t n c) e2 := by
  have oF := hO.F; have oL := hO.L; have oH := hO.H; have oN := hO.N; have oK := hO.K; have oT := hO.T; have oB := hO.B
  refine ⟨?_, ?_, ?_, ?_, ?_, ?_, ?_, ?_, ?_, ?_, ?_, ?_, ?_, ?_, ?_, ?_, ?_, ?_, ?_, ?_, ?_, ?_, ?_, ?_, ?_, ?_, ?_, ?_, ?_, ?_, ?_, ?_, ?_, ?_, ?_, ?_, ?_, ?_, ?_, ?_, ?_, ?_, ?_, ?_, ?_, ?_⟩
  · rw [e _ _ (by omega)]; exact hR.out
  · rw [e _ _ (by omega)]; exact hR.on
  · rw [e _ _ (by omega)]; exact hR.hour
  · rw [e _ _ (by omega)]; exact hR.slips
  · rw [e _ _ (by omega)]; exact hR.F
  · rw [e _ _ (by omega)]; exact hR.L
  · rw [e _ _ (by omega)]; exact hR.H
  · rw [e _ _ (by omega)]; exact hR.N
  · rw [e _ _ (by omega)]; exact hR.K
  · rw [e _ _ (by omega)]; exact hR.B
  · rw [e _ _ (by omega)]; exact hR.T
  · rw [e _ _ (by omega)]; exact hR.law
  · rw [e _ _ (by omega)]; exact hR.img
  · rw [e _ _ (by omega)]; exact hR.iout
  · rw [e _ _ (by omega)]; exact hR.ion
  · rw [e _ _ (by omega)]; exact hR.ihour
  · rw [e _ _ (by omega)]; exact hR.islips
  · rw [e _ _ (by omega)]; exact hR.iN
  · rw [e _ _ (by omega)]; exact hR.ilaw
  · intro i (h0 : i < A.F); rw [e _ _ (by omega)]; exact hR.bears _ h0
  · intro i (h0 : i < A.F); rw [e _ _ (by omega)]; exact hR.times _ h0
  · intro l (h0 : l < A.L); rw [e _ _ (by omega)]; exact hR.kind _ h0
  · intro l (h0 : l < A.L); rw [e _ _ (by omega)]; exact hR.pow _ h0
  · intro l (h0 : l < A.L); rw [e _ _ (by omega)]; exact hR.room _ h0
  · intro l (h0 : l < A.L); rw [e _ _ (by omega)]; exact hR.sx _ h0
  · intro l (h0 : l < A.L); rw [e _ _ (by omega)]; exact hR.sy _ h0
  · intro l (h0 : l < A.L); rw [e _ _ (by omega)]; exact hR.more _ h0
  · intro h l (h0 : h < A.H) (h1 : l < A.L); rw [e _ _ (by omega)]; exact hR.fed _ _ h0 h1
  · intro k (h0 : k < 10); rw [e _ _ (by omega)]; exact hR.ao _ h0
  · intro k (h0 : k < 10); rw [e _ _ (by omega)]; exact hR.an _ h0
  · intro k (h0 : k < 10); rw [e _ _ (by omega)]; exact hR.ah _ h0
  · intro k (h0 : k < 10); rw [e _ _ (by omega)]; exact hR.ar _ h0
  · intro k (h0 : k < 10); rw [e _ _ (by omega)]; exact hR.az _ h0
  · intro k (h0 : k < A.K); rw [e _ _ (by omega)]; exact hR.year _ h0
  · intro k l (h0 : k < A.K) (h1 : l < A.L); rw [e _ _ (by omega)]; exact hR.lab _ _ h0 h1
  · intro i (h0 : i < A.B); rw [e _ _ (by omega)]; exact hR.tape _ h0
  · intro t p i (h0 : t < A.T) (h1 : p < 3) (h2 : i < (A.txt t p).length); rw [e _ _ (by omega)]; exact hR.cod _ _ _ h0 h1 h2
  · intro t p (h0 : t < A.T) (h1 : p < 4); rw [e _ _ (by omega)]; exact hR.starts _ _ h0 h1
  · intro k (h0 : k < 10); rw [e _ _ (by omega)]; exact hR.io _ h0
  · intro k (h0 : k < 10); rw [e _ _ (by omega)]; exact hR.inn _ h0
  · intro k (h0 : k < 10); rw [e _ _ (by omega)]; exact hR.ih _ h0
  · intro k (h0 : k < 10); rw [e _ _ (by omega)]; exact hR.ir _ h0
  · intro k (h0 : k < 10); rw [e _ _ (by omega)]; exact hR.iz _ h0
  · intro i (h0 : i < 4)
    by_cases e0 : i = s
    · subst e0
      rw [n1]
      exact (if_pos rfl).symm
    · rw [e _ _ (by omega), hR.sort i h0]
      exact (if_neg e0).symm
  · intro i (h0 : i < 4)
    by_cases e0 : i = s
    · subst e0
      rw [n2]
      exact congrArg nI (if_pos rfl).symm
    · rw [e _ _ (by omega), hR.size i h0]
      exact congrArg nI (if_neg e0).symm
  · intro i j (h0 : i < 4) (h1 : j < 40)
    by_cases e0 : i = s
    · subst e0
      rw [n3 j h1]
      exact (if_pos rfl).symm
    · rw [e _ _ (by omega), hR.cell i j h0 h1]
      exact (if_neg e0).symm
/-! lamp -/
def q_A.u_lamp (A : q_A) (p : Nat → Nat) : q_A := (((((((A).setN 1 (fun _ _ => A.L + 1)).setN 10 (fun i _ => if i = A.L then (p 0) else A.kind i)).setN 11 (fun i _ => if i = A.L then (p 1) else A.pow i)).setN 12 (fun i _ => if i = A.L then (p 2) else A.room i)).setN 13 (fun i _ => if i = A.L then (p 3) else A.sx i)).setN 14 (fun i _ => if i = A.L then (p 4) else A.sy i)).setN 15 (fun i _ => if i = A.L then (p 5) else A.more i)
theorem u_lamp_ok {A : q_A} {p : Nat → Nat} (hO : q_Ok A) (hL : A.L < 10) (hH : A.H = 0) (hK : A.K = 0) (p0 : p 0 ≤ 5) (p1 : p 1 ≤ 99) (p1b : 1 ≤ p 1) (p2 : p 2 < 6) (p3 : p 3 < 8) (p4 : p 4 < 8) (p5 : p 5 < 10) : q_Ok (A.u_lamp p) := by
  have oF := hO.F; have oL := hO.L; have oH := hO.H; have oN := hO.N; have oK := hO.K; have oT := hO.T; have oB := hO.B
  refine ⟨?_, ?_, ?_, ?_, ?_, ?_, ?_, ?_, ?_, ?_, ?_, ?_, ?_, ?_, ?_, ?_, ?_, ?_, ?_, ?_, ?_, ?_, ?_, ?_, ?_, ?_, ?_⟩
  · exact hO.F
  · exact hL
  · exact hO.H
  · exact hO.K
  · exact hO.T
  · exact hO.T0
  · exact hO.N
  · exact hO.B
  · exact hO.law
  · exact hO.iN
  · exact hO.ilaw
  · exact hO.img
  · intro l (h0 : l < A.L + 1)
    show (if l = A.L then p 0 else A.kind l) ≤ 5
    by_cases e0 : l = A.L
    · rw [if_pos e0]; exact p0
    · rw [if_neg e0]; exact hO.kind l (by omega)
  · intro l (h0 : l < A.L + 1)
    show (if l = A.L then p 1 else A.pow l) ≤ 99
    by_cases e0 : l = A.L
    · rw [if_pos e0]; exact p1
    · rw [if_neg e0]; exact hO.pow l (by omega)
  · intro l (h0 : l < A.L + 1)
    show 1 ≤ (if l = A.L then p 1 else A.pow l)
    by_cases e0 : l = A.L
    · rw [if_pos e0]; exact p1b
    · rw [if_neg e0]; exact hO.pow1 l (by omega)
  · intro l (h0 : l < A.L + 1)
    show (if l = A.L then p 2 else A.room l) < 6
    by_cases e0 : l = A.L
    · rw [if_pos e0]; exact p2
    · rw [if_neg e0]; exact hO.room l (by omega)
  · intro l (h0 : l < A.L + 1)
    show (if l = A.L then p 3 else A.sx l) < 8
    by_cases e0 : l = A.L
    · rw [if_pos e0]; exact p3
    · rw [if_neg e0]; exact hO.sx l (by omega)
  · intro l (h0 : l < A.L + 1)
    show (if l = A.L then p 4 else A.sy l) < 8
    by_cases e0 : l = A.L
    · rw [if_pos e0]; exact p4
    · rw [if_neg e0]; exact hO.sy l (by omega)
  · intro l (h0 : l < A.L + 1)
    show (if l = A.L then p 5 else A.more l) < 10
    by_cases e0 : l = A.L
    · rw [if_pos e0]; exact p5
    · rw [if_neg e0]; exact hO.more l (by omega)
  · intro h l (h0 : h < A.H); omega
  · intro h l (h0 : h < A.K); omega
  · exact hO.size
  · exact hO.sort
  · exact hO.tape
  · exact hO.txt
  · exact hO.cok
  · exact hO.txl
theorem u_lamp_w {A : q_A} {p : Nat → Nat} {d e2 : Nat → Nat → Int32} (hO : q_Ok A) (hR : q_Rw A d) (hL : A.L < 10) (hH : A.H = 0) (hK : A.K = 0) (p0 : p 0 ≤ 5) (p1 : p 1 ≤ 99) (p1b : 1 ≤ p 1) (p2 : p 2 < 6) (p3 : p 3 < 8) (p4 : p 4 < 8) (p5 : p 5 < 10) (e : ∀ o k, o ≠ 51 + A.L ∧ ¬ (o = 0 ∧ k = 14) ∧ ¬ (45 ≤ o ∧ o ≤ 50 ∧ k = 2) → e2 o k = d o k) (n0 : e2 (51 + A.L) 0 = nI (p 0)) (n1 : e2 (51 + A.L) 1 = nI (p 1)) (n2 : e2 (51 + A.L) 2 = nI (p 2)) (n3 : e2 (51 + A.L) 3 = nI (p 3)) (n4 : e2 (51 + A.L) 4 = nI (p 4)) (n5 : e2 (51 + A.L) 5 = nI (p 5)) (n6 : e2 0 14 = nI (A.L + 1)) (n7 : ∀ i, i < 6 → e2 (45 + i) 2 = if p 0 = 3 ∧ p 5 = i then d (45 + i) 2 ||| nI (2 ^ A.L) else d (45 + i) 2) : q_Rw (A.u_lamp p) e2 := by
  have oF := hO.F; have oL := hO.L; have oH := hO.H; have oN := hO.N; have oK := hO.K; have oT := hO.T; have oB := hO.B
  refine ⟨?_, ?_, ?_, ?_, ?_, ?_, ?_, ?_, ?_, ?_, ?_, ?_, ?_, ?_, ?_, ?_, ?_, ?_, ?_, ?_, ?_, ?_, ?_, ?_, ?_, ?_, ?_, ?_, ?_, ?_, ?_, ?_, ?_, ?_, ?_, ?_, ?_, ?_, ?_, ?_, ?_, ?_, ?_, ?_, ?_, ?_, ?_, ?_, ?_⟩
  · rw [e _ _ (by omega)]; exact hR.F
  · exact n6
  · rw [e _ _ (by omega)]; exact hR.H
  · rw [e _ _ (by omega)]; exact hR.K
  · rw [e _ _ (by omega)]; exact hR.T
  · rw [e _ _ (by omega)]; exact hR.img
  · rw [e _ _ (by omega)]; exact hR.N
  · rw [e _ _ (by omega)]; exact hR.law
  · rw [e _ _ (by omega)]; exact hR.out
  · rw [e _ _ (by omega)]; exact hR.on
  · rw [e _ _ (by omega)]; exact hR.hour
  · rw [e _ _ (by omega)]; exact hR.slips
  · rw [e _ _ (by omega)]; exact hR.iN
  · rw [e _ _ (by omega)]; exact hR.ilaw
  · rw [e _ _ (by omega)]; exact hR.iout
  · rw [e _ _ (by omega)]; exact hR.ion
  · rw [e _ _ (by omega)]; exact hR.ihour
  · rw [e _ _ (by omega)]; exact hR.islips
  · rw [e _ _ (by omega)]; exact hR.B
  · intro i (h0 : i < A.B); rw [e _ _ (by omega)]; exact hR.tape _ h0
  · intro i (h0 : i < A.F); rw [e _ _ (by omega)]; exact hR.bears _ h0
  · intro i (h0 : i < A.F); rw [e _ _ (by omega)]; exact hR.times _ h0
  · intro i h0
    rw [n7 i h0, hR.lends i h0]
    have k1 : ∀ l, l < A.L → (decide ((if l = A.L then p 0 else A.kind l) = 3) && decide ((if l = A.L then p 5 else A.more l) = i)) = (decide (A.kind l = 3) && decide (A.more l = i)) := fun l hl => by rw [if_neg (by omega), if_neg (by omega)]
    have k2 : q_bits A.L (fun l => decide (A.kind l = 3) && decide (A.more l = i)) = q_bits A.L (fun l => decide ((if l = A.L then p 0 else A.kind l) = 3) && decide ((if l = A.L then p 5 else A.more l) = i)) := q_bits_congr fun l hl => (k1 l hl).symm
    have k3 := q_bits_ite (n := A.L) (p := fun l => decide ((if l = A.L then p 0 else A.kind l) = 3) && decide ((if l = A.L then p 5 else A.more l) = i)) (c := p 0 = 3 ∧ p 5 = i) (by omega) (show (p 0 = 3 ∧ p 5 = i) ↔ (decide ((if A.L = A.L then p 0 else A.kind A.L) = 3) && decide ((if A.L = A.L then p 5 else A.more A.L) = i)) = true by simp)
    rw [← k2] at k3
    show _ = q_bits (A.L + 1) (fun l => decide ((if l = A.L then p 0 else A.kind l) = 3) && decide ((if l = A.L then p 5 else A.more l) = i))
    by_cases z : p 0 = 3 ∧ p 5 = i
    · rw [if_pos z] at k3 ⊢; exact k3
    · rw [if_neg z] at k3 ⊢; exact k3
  · intro i (h0 : i < A.L + 1)
    by_cases e0 : i = A.L
    · subst e0
      rw [n0]
      exact congrArg nI (if_pos rfl).symm
    · rw [e _ _ (by omega), hR.kind i (by omega)]
      exact congrArg nI (if_neg e0).symm
  · intro i (h0 : i < A.L + 1)
    by_cases e0 : i = A.L
    · subst e0
      rw [n1]
      exact congrArg nI (if_pos rfl).symm
    · rw [e _ _ (by omega), hR.pow i (by omega)]
      exact congrArg nI (if_neg e0).symm
  · intro i (h0 : i < A.L + 1)
    by_cases e0 : i = A.L
    · subst e0
      rw [n2]
      exact congrArg nI (if_pos rfl).symm
    · rw [e _ _ (by omega), hR.room i (by omega)]
      exact congrArg nI (if_neg e0).symm
  · intro i (h0 : i < A.L + 1)
    by_cases e0 : i = A.L
    · subst e0
      rw [n3]
      exact congrArg nI (if_pos rfl).symm
    · rw [e _ _ (by omega), hR.sx i (by omega)]
      exact congrArg nI (if_neg e0).symm
  · intro i (h0 : i < A.L + 1)
    by_cases e0 : i = A.L
    · subst e0
      rw [n4]
      exact congrArg nI (if_pos rfl).symm
    · rw [e _ _ (by omega), hR.sy i (by omega)]
      exact congrArg nI (if_neg e0).symm
  · intro i (h0 : i < A.L + 1)
    by_cases e0 : i = A.L
    · subst e0
      rw [n5]
      exact congrArg nI (if_pos rfl).symm
    · rw [e _ _ (by omega), hR.more i (by omega)]
      exact congrArg nI (if_neg e0).symm
  · intro h l (h0 : h < A.H); omega
  · intro h f (h0 : h < A.H); omega
  · intro h f (h0 : A.H ≤ h) h1 h2; rw [e _ _ (by omega)]; exact hR.feeds0 _ _ h0 h1 h2
  · intro k l (h0 : k < A.K); omega
  · intro k (h0 : k < A.K); rw [e _ _ (by omega)]; exact hR.year _ h0
  · intro k (h0 : k < 10); rw [e _ _ (by omega)]; exact hR.ao _ h0
  · intro k (h0 : k < 10); rw [e _ _ (by omega)]; exact hR.an _ h0
  · intro k (h0 : k < 10); rw [e _ _ (by omega)]; exact hR.ah _ h0
  · intro k (h0 : k < 10); rw [e _ _ (by omega)]; exact hR.ar _ h0
  · intro k (h0 : k < 10); rw [e _ _ (by omega)]; exact hR.az _ h0
  · intro k (h0 : k < 10); rw [e _ _ (by omega)]; exact hR.io _ h0
  · intro k (h0 : k < 10); rw [e _ _ (by omega)]; exact hR.inn _ h0
  · intro k (h0 : k < 10); rw [e _ _ (by omega)]; exact hR.ih _ h0
  · intro k (h0 : k < 10); rw [e _ _ (by omega)]; exact hR.ir _ h0
  · intro k (h0 : k < 10); rw [e _ _ (by omega)]; exact hR.iz _ h0
  · intro t p (h0 : t < A.T) (h1 : p < 3); rw [e _ _ (by omega)]; exact hR.ends _ _ h0 h1
  · intro t p i (h0 : t < A.T) (h1 : p < 3) (h2 : i < (A.txt t p).length); rw [e _ _ (by omega)]; exact hR.stp _ _ _ h0 h1 h2
  · intro s (h0 : s < 4); rw [e _ _ (by omega)]; exact hR.sort _ h0
  · intro s (h0 : s < 4); rw [e _ _ (by omega)]; exact hR.size _ h0
  · intro s i (h0 : s < 4) (h1 : i < 40); rw [e _ _ (by omega)]; exact hR.cell _ _ h0 h1
theorem u_lamp_r {A : q_A} {p : Nat → Nat} {d e2 : Nat → Nat → Int32} (hO : q_Ok A) (hR : q_Rr A d) (hL : A.L < 10) (hH : A.H = 0) (hK : A.K = 0) (p0 : p 0 ≤ 5) (p1 : p 1 ≤ 99) (p1b : 1 ≤ p 1) (p2 : p 2 < 6) (p3 : p 3 < 8) (p4 : p 4 < 8) (p5 : p 5 < 10) (e : ∀ o k, ¬ (138 ≤ o ∧ o ≤ 143 ∧ k = A.L) ∧ ¬ (o = 135 ∧ k = 7) → e2 o k = d o k) (n0 : e2 138 A.L = nI (p 0)) (n1 : e2 139 A.L = nI (p 1)) (n2 : e2 140 A.L = nI (p 2)) (n3 : e2 141 A.L = nI (p 3)) (n4 : e2 142 A.L = nI (p 4)) (n5 : e2 143 A.L = nI (p 5)) (n6 : e2 135 7 = nI (A.L + 1)) : q_Rr (A.u_lamp p) e2 := by
  have oF := hO.F; have oL := hO.L; have oH := hO.H; have oN := hO.N; have oK := hO.K; have oT := hO.T; have oB := hO.B
  refine ⟨?_, ?_, ?_, ?_, ?_, ?_, ?_, ?_, ?_, ?_, ?_, ?_, ?_, ?_, ?_, ?_, ?_, ?_, ?_, ?_, ?_, ?_, ?_, ?_, ?_, ?_, ?_, ?_, ?_, ?_, ?_, ?_, ?_, ?_, ?_, ?_, ?_, ?_, ?_, ?_, ?_, ?_, ?_, ?_, ?_, ?_⟩
  · rw [e _ _ (by omega)]; exact hR.out
  · rw [e _ _ (by omega)]; exact hR.on
  · rw [e _ _ (by omega)]; exact hR.hour
  · rw [e _ _ (by omega)]; exact hR.slips
  · rw [e _ _ (by omega)]; exact hR.F
  · exact n6
  · rw [e _ _ (by omega)]; exact hR.H
  · rw [e _ _ (by omega)]; exact hR.N
  · rw [e _ _ (by omega)]; exact hR.K
  · rw [e _ _ (by omega)]; exact hR.B
  · rw [e _ _ (by omega)]; exact hR.T
  · rw [e _ _ (by omega)]; exact hR.law
  · rw [e _ _ (by omega)]; exact hR.img
  · rw [e _ _ (by omega)]; exact hR.iout
  · rw [e _ _ (by omega)]; exact hR.ion
  · rw [e _ _ (by omega)]; exact hR.ihour
  · rw [e _ _ (by omega)]; exact hR.islips
  · rw [e _ _ (by omega)]; exact hR.iN
  · rw [e _ _ (by omega)]; exact hR.ilaw
  · intro i (h0 : i < A.F); rw [e _ _ (by omega)]; exact hR.bears _ h0
  · intro i (h0 : i < A.F); rw [e _ _ (by omega)]; exact hR.times _ h0
  · intro i (h0 : i < A.L + 1)
    by_cases e0 : i = A.L
    · subst e0
      rw [n0]
      exact congrArg nI (if_pos rfl).symm
    · rw [e _ _ (by omega), hR.kind i (by omega)]
      exact congrArg nI (if_neg e0).symm
  · intro i (h0 : i < A.L + 1)
    by_cases e0 : i = A.L
    · subst e0
      rw [n1]
      exact congrArg nI (if_pos rfl).symm
    · rw [e _ _ (by omega), hR.pow i (by omega)]
      exact congrArg nI (if_neg e0).symm
  · intro i (h0 : i < A.L + 1)
    by_cases e0 : i = A.L
    · subst e0
      rw [n2]
      exact congrArg nI (if_pos rfl).symm
    · rw [e _ _ (by omega), hR.room i (by omega)]
      exact congrArg nI (if_neg e0).symm
  · intro i (h0 : i < A.L + 1)
    by_cases e0 : i = A.L
    · subst e0
      rw [n3]
      exact congrArg nI (if_pos rfl).symm
    · rw [e _ _ (by omega), hR.sx i (by omega)]
      exact congrArg nI (if_neg e0).symm
  · intro i (h0 : i < A.L + 1)
    by_cases e0 : i = A.L
    · subst e0
      rw [n4]
      exact congrArg nI (if_pos rfl).symm
    · rw [e _ _ (by omega), hR.sy i (by omega)]
      exact congrArg nI (if_neg e0).symm
  · intro i (h0 : i < A.L + 1)
    by_cases e0 : i = A.L
    · subst e0
      rw [n5]
      exact congrArg nI (if_pos rfl).symm
    · rw [e _ _ (by omega), hR.more i (by omega)]
      exact congrArg nI (if_neg e0).symm
  · intro h l (h0 : h < A.H); omega
  · intro k (h0 : k < 10); rw [e _ _ (by omega)]; exact hR.ao _ h0
  · intro k (h0 : k < 10); rw [e _ _ (by omega)]; exact hR.an _ h0
  · intro k (h0 : k < 10); rw [e _ _ (by omega)]; exact hR.ah _ h0
  · intro k (h0 : k < 10); rw [e _ _ (by omega)]; exact hR.ar _ h0
  · intro k (h0 : k < 10); rw [e _ _ (by omega)]; exact hR.az _ h0
  · intro k (h0 : k < A.K); rw [e _ _ (by omega)]; exact hR.year _ h0
  · intro k l (h0 : k < A.K); omega
  · intro i (h0 : i < A.B); rw [e _ _ (by omega)]; exact hR.tape _ h0
  · intro t p i (h0 : t < A.T) (h1 : p < 3) (h2 : i < (A.txt t p).length); rw [e _ _ (by omega)]; exact hR.cod _ _ _ h0 h1 h2
  · intro t p (h0 : t < A.T) (h1 : p < 4); rw [e _ _ (by omega)]; exact hR.starts _ _ h0 h1
  · intro k (h0 : k < 10); rw [e _ _ (by omega)]; exact hR.io _ h0
  · intro k (h0 : k < 10); rw [e _ _ (by omega)]; exact hR.inn _ h0
  · intro k (h0 : k < 10); rw [e _ _ (by omega)]; exact hR.ih _ h0
  · intro k (h0 : k < 10); rw [e _ _ (by omega)]; exact hR.ir _ h0
  · intro k (h0 : k < 10); rw [e _ _ (by omega)]; exact hR.iz _ h0
  · intro s (h0 : s < 4); rw [e _ _ (by omega)]; exact hR.sort _ h0
  · intro s (h0 : s < 4); rw [e _ _ (by omega)]; exact hR.size _ h0
  · intro s i (h0 : s < 4) (h1 : i < 40); rw [e _ _ (by omega)]; exact hR.cell _ _ h0 h1
/-! house -/
def q_A.u_house (A : q_A) (g : Nat → Nat) : q_A := ((A).setN 2 (fun _ _ => A.H + 1)).setN 16 (fun i l => if i = A.H then g l else A.fed i l)
theorem u_house_ok {A : q_A} {g : Nat → Nat} (hO : q_Ok A) (hH : A.H < 12) (hg : ∀ l, l < A.L → g l < A.F) : q_Ok (A.u_house g) := by
  have oF := hO.F; have oL := hO.L; have oH := hO.H; have oN := hO.N; have oK := hO.K; have oT := hO.T; have oB := hO.B
  refine ⟨?_, ?_, ?_, ?_, ?_, ?_, ?_, ?_, ?_, ?_, ?_, ?_, ?_, ?_, ?_, ?_, ?_, ?_, ?_, ?_, ?_, ?_, ?_, ?_, ?_, ?_, ?_⟩
  · exact hO.F
  · exact hO.L
  · exact hH
  · exact hO.K
  · exact hO.T
  · exact hO.T0
  · exact hO.N
  · exact hO.B
  · exact hO.law
  · exact hO.iN
  · exact hO.ilaw
  · exact hO.img
  · exact hO.kind
  · exact hO.pow
  · exact hO.pow1
  · exact hO.room
  · exact hO.sx
  · exact hO.sy
  · exact hO.more
  · intro i l (h0 : i < A.H + 1) (h1 : l < A.L)
    show (if i = A.H then g l else A.fed i l) < A.F
    by_cases e0 : i = A.H
    · rw [if_pos e0]; exact hg l h1
    · rw [if_neg e0]; exact hO.fed i l (by omega) h1
  · exact hO.lab
  · exact hO.size
  · exact hO.sort
  · exact hO.tape
  · exact hO.txt
  · exact hO.cok
  · exact hO.txl
theorem u_house_w {A : q_A} {g : Nat → Nat} {d e2 : Nat → Nat → Int32} (hO : q_Ok A) (hR : q_Rw A d) (hH : A.H < 12) (hg : ∀ l, l < A.L → g l < A.F) (e : ∀ o k, o ≠ 62 + 3 * A.H ∧ o ≠ 63 + 3 * A.H ∧ ¬ (o = 0 ∧ k = 15) → e2 o k = d o k) (n1 : ∀ l, l < A.L → e2 (62 + 3 * A.H) l = nI (g l)) (n2 : ∀ f, f < 6 → e2 (63 + 3 * A.H) f = q_bits A.L (fun l => decide (g l = f))) (n3 : e2 0 15 = nI (A.H + 1)) : q_Rw (A.u_house g) e2 := by
  have oF := hO.F; have oL := hO.L; have oH := hO.H; have oN := hO.N; have oK := hO.K; have oT := hO.T; have oB := hO.B
  refine ⟨?_, ?_, ?_, ?_, ?_, ?_, ?_, ?_, ?_, ?_, ?_, ?_, ?_, ?_, ?_, ?_, ?_, ?_, ?_, ?_, ?_, ?_, ?_, ?_, ?_, ?_, ?_, ?_, ?_, ?_, ?_, ?_, ?_, ?_, ?_, ?_, ?_, ?_, ?_, ?_, ?_, ?_, ?_, ?_, ?_, ?_, ?_, ?_, ?_⟩
  · rw [e _ _ (by omega)]; exact hR.F
  · rw [e _ _ (by omega)]; exact hR.L
  · exact n3
  · rw [e _ _ (by omega)]; exact hR.K
  · rw [e _ _ (by omega)]; exact hR.T
  · rw [e _ _ (by omega)]; exact hR.img
  · rw [e _ _ (by omega)]; exact hR.N
  · rw [e _ _ (by omega)]; exact hR.law
  · rw [e _ _ (by omega)]; exact hR.out
  · rw [e _ _ (by omega)]; exact hR.on
  · rw [e _ _ (by omega)]; exact hR.hour
  · rw [e _ _ (by omega)]; exact hR.slips
  · rw [e _ _ (by omega)]; exact hR.iN
  · rw [e _ _ (by omega)]; exact hR.ilaw
  · rw [e _ _ (by omega)]; exact hR.iout
  · rw [e _ _ (by omega)]; exact hR.ion
  · rw [e _ _ (by omega)]; exact hR.ihour
  · rw [e _ _ (by omega)]; exact hR.islips
  · rw [e _ _ (by omega)]; exact hR.B
  · intro i (h0 : i < A.B); rw [e _ _ (by omega)]; exact hR.tape _ h0
  · intro i (h0 : i < A.F); rw [e _ _ (by omega)]; exact hR.bears _ h0
  · intro i (h0 : i < A.F); rw [e _ _ (by omega)]; exact hR.times _ h0
  · intro i (h0 : i < 6); rw [e _ _ (by omega)]; exact hR.lends _ h0
  · intro l (h0 : l < A.L); rw [e _ _ (by omega)]; exact hR.kind _ h0
  · intro l (h0 : l < A.L); rw [e _ _ (by omega)]; exact hR.pow _ h0
  · intro l (h0 : l < A.L); rw [e _ _ (by omega)]; exact hR.room _ h0
  · intro l (h0 : l < A.L); rw [e _ _ (by omega)]; exact hR.sx _ h0
  · intro l (h0 : l < A.L); rw [e _ _ (by omega)]; exact hR.sy _ h0
  · intro l (h0 : l < A.L); rw [e _ _ (by omega)]; exact hR.more _ h0
  · intro i l (h0 : i < A.H + 1) (h1 : l < A.L)
    by_cases e0 : i = A.H
    · subst e0
      rw [n1 l h1]
      exact congrArg nI (if_pos rfl).symm
    · rw [e _ _ (by omega), hR.fed i l (by omega) h1]
      exact congrArg nI (if_neg e0).symm
  · intro i f (h0 : i < A.H + 1) h1
    by_cases e0 : i = A.H
    · subst e0
      rw [n2 f h1]
      exact q_bits_congr fun l _ => congrArg (fun t => decide (t = f)) (if_pos rfl).symm
    · rw [e _ _ (by omega), hR.feeds i f (by omega) h1]
      exact q_bits_congr fun l _ => congrArg (fun t => decide (t = f)) (if_neg e0).symm
  · intro i f (h0 : A.H + 1 ≤ i) h1 h2; rw [e _ _ (by omega)]; exact hR.feeds0 _ _ (by omega) h1 h2
  · intro k l (h0 : k < A.K) (h1 : l < A.L); rw [e _ _ (by omega)]; exact hR.lab _ _ h0 h1
  · intro k (h0 : k < A.K); rw [e _ _ (by omega)]; exact hR.year _ h0
  · intro k (h0 : k < 10); rw [e _ _ (by omega)]; exact hR.ao _ h0
  · intro k (h0 : k < 10); rw [e _ _ (by omega)]; exact hR.an _ h0
  · intro k (h0 : k < 10); rw [e _ _ (by omega)]; exact hR.ah _ h0
  · intro k (h0 : k < 10); rw [e _ _ (by omega)]; exact hR.ar _ h0
  · intro k (h0 : k < 10); rw [e _ _ (by omega)]; exact hR.az _ h0
  · intro k (h0 : k < 10); rw [e _ _ (by omega)]; exact hR.io _ h0
  · intro k (h0 : k < 10); rw [e _ _ (by omega)]; exact hR.inn _ h0
  · intro k (h0 : k < 10); rw [e _ _ (by omega)]; exact hR.ih _ h0
  · intro k (h0 : k < 10); rw [e _ _ (by omega)]; exact hR.ir _ h0
  · intro k (h0 : k < 10); rw [e _ _ (by omega)]; exact hR.iz _ h0
  · intro t p (h0 : t < A.T) (h1 : p < 3); rw [e _ _ (by omega)]; exact hR.ends _ _ h0 h1
  · intro t p i (h0 : t < A.T) (h1 : p < 3) (h2 : i < (A.txt t p).length); rw [e _ _ (by omega)]; exact hR.stp _ _ _ h0 h1 h2
  · intro s (h0 : s < 4); rw [e _ _ (by omega)]; exact hR.sort _ h0
  · intro s (h0 : s < 4); rw [e _ _ (by omega)]; exact hR.size _ h0
  · intro s i (h0 : s < 4) (h1 : i < 40); rw [e _ _ (by omega)]; exact hR.cell _ _ h0 h1
theorem u_house_r {A : q_A} {g : Nat → Nat} {d e2 : Nat → Nat → Int32} (hO : q_Ok A) (hR : q_Rr A d) (hH : A.H < 12) (hg : ∀ l, l < A.L → g l < A.F) (e : ∀ o k, ¬ (o = 144 ∧ 10 * A.H ≤ k ∧ k < 10 * A.H + A.L) ∧ ¬ (o = 135 ∧ k = 14) → e2 o k = d o k) (n1 : ∀ l, l < A.L → e2 144 (10 * A.H + l) = nI (g l)) (n3 : e2 135 14 = nI (A.H + 1)) : q_Rr (A.u_house g) e2 := by
  have oF := hO.F; have oL := hO.L; have oH := hO.H; have oN := hO.N; have oK := hO.K; have oT := hO.T; have oB := hO.B
  refine ⟨?_, ?_, ?_, ?_, ?_, ?_, ?_, ?_, ?_, ?_, ?_, ?_, ?_, ?_, ?_, ?_, ?_, ?_, ?_, ?_, ?_, ?_, ?_, ?_, ?_, ?_, ?_, ?_, ?_, ?_, ?_, ?_, ?_, ?_, ?_, ?_, ?_, ?_, ?_, ?_, ?_, ?_, ?_, ?_, ?_, ?_⟩
  · rw [e _ _ (by omega)]; exact hR.out
  · rw [e _ _ (by omega)]; exact hR.on
  · rw [e _ _ (by omega)]; exact hR.hour
  · rw [e _ _ (by omega)]; exact hR.slips
  · rw [e _ _ (by omega)]; exact hR.F
  · rw [e _ _ (by omega)]; exact hR.L
  · exact n3
  · rw [e _ _ (by omega)]; exact hR.N
  · rw [e _ _ (by omega)]; exact hR.K
  · rw [e _ _ (by omega)]; exact hR.B
  · rw [e _ _ (by omega)]; exact hR.T
  · rw [e _ _ (by omega)]; exact hR.law
  · rw [e _ _ (by omega)]; exact hR.img
  · rw [e _ _ (by omega)]; exact hR.iout
  · rw [e _ _ (by omega)]; exact hR.ion
  · rw [e _ _ (by omega)]; exact hR.ihour
  · rw [e _ _ (by omega)]; exact hR.islips
  · rw [e _ _ (by omega)]; exact hR.iN
  · rw [e _ _ (by omega)]; exact hR.ilaw
  · intro i (h0 : i < A.F); rw [e _ _ (by omega)]; exact hR.bears _ h0
  · intro i (h0 : i < A.F); rw [e _ _ (by omega)]; exact hR.times _ h0
  · intro l (h0 : l < A.L); rw [e _ _ (by omega)]; exact hR.kind _ h0
  · intro l (h0 : l < A.L); rw [e _ _ (by omega)]; exact hR.pow _ h0
  · intro l (h0 : l < A.L); rw [e _ _ (by omega)]; exact hR.room _ h0
  · intro l (h0 : l < A.L); rw [e _ _ (by omega)]; exact hR.sx _ h0
  · intro l (h0 : l < A.L); rw [e _ _ (by omega)]; exact hR.sy _ h0
  · intro l (h0 : l < A.L); rw [e _ _ (by omega)]; exact hR.more _ h0
  · intro i l (h0 : i < A.H + 1) (h1 : l < A.L)
    by_cases e0 : i = A.H
    · subst e0
      rw [n1 l h1]
      exact congrArg nI (if_pos rfl).symm
    · rw [e _ _ (by omega), hR.fed i l (by omega) h1]
      exact congrArg nI (if_neg e0).symm
  · intro k (h0 : k < 10); rw [e _ _ (by omega)]; exact hR.ao _ h0
  · intro k (h0 : k < 10); rw [e _ _ (by omega)]; exact hR.an _ h0
  · intro k (h0 : k < 10); rw [e _ _ (by omega)]; exact hR.ah _ h0
  · intro k (h0 : k < 10); rw [e _ _ (by omega)]; exact hR.ar _ h0
  · intro k (h0 : k < 10); rw [e _ _ (by omega)]; exact hR.az _ h0
  · intro k (h0 : k < A.K); rw [e _ _ (by omega)]; exact hR.year _ h0
  · intro k l (h0 : k < A.K) (h1 : l < A.L); rw [e _ _ (by omega)]; exact hR.lab _ _ h0 h1
  · intro i (h0 : i < A.B); rw [e _ _ (by omega)]; exact hR.tape _ h0
  · intro t p i (h0 : t < A.T) (h1 : p < 3) (h2 : i < (A.txt t p).length); rw [e _ _ (by omega)]; exact hR.cod _ _ _ h0 h1 h2
  · intro t p (h0 : t < A.T) (h1 : p < 4); rw [e _ _ (by omega)]; exact hR.starts _ _ h0 h1
  · intro k (h0 : k < 10); rw [e _ _ (by omega)]; exact hR.io _ h0
  · intro k (h0 : k < 10); rw [e _ _ (by omega)]; exact hR.inn _ h0
  · intro k (h0 : k < 10); rw [e _ _ (by omega)]; exact hR.ih _ h0
  · intro k (h0 : k < 10); rw [e _ _ (by omega)]; exact hR.ir _ h0
  · intro k (h0 : k < 10); rw [e _ _ (by omega)]; exact hR.iz _ h0
  · intro s (h0 : s < 4); rw [e _ _ (by omega)]; exact hR.sort _ h0
  · intro s (h0 : s < 4); rw [e _ _ (by omega)]; exact hR.size _ h0
  · intro s i (h0 : s < 4) (h1 : i < 40); rw [e _ _ (by omega)]; exact hR.cell _ _ h0 h1
/-! label -/
def q_A.u_label (A : q_A) (y : Int32) (g : Nat → Nat) : q_A := (((A).setN 3 (fun _ _ => A.K + 1)).setN 17 (fun i l => if i = A.K then g l else A.lab i l)).setI 6 (fun i _ => if i = A.K then y else A.year i)
theorem u_label_ok {A : q_A} {y : Int32} {g : Nat → Nat} (hO : q_Ok A) (hK : A.K < 4) (hg : ∀ l, l < A.L → g l < A.F) : q_Ok (A.u_label y g) := by
  have oF := hO.F; have oL := hO.L; have oH := hO.H; have oN := hO.N; have oK := hO.K; have oT := hO.T; have oB := hO.B
  refine ⟨?_, ?_, ?_, ?_, ?_, ?_, ?_, ?_, ?_, ?_, ?_, ?_, ?_, ?_, ?_, ?_, ?_, ?_, ?_, ?_, ?_, ?_, ?_, ?_, ?_, ?_, ?_⟩
  · exact hO.F
  · exact hO.L
  · exact hO.H
  · exact hK
  · exact hO.T
  · exact hO.T0
  · exact hO.N
  · exact hO.B
  · exact hO.law
  · exact hO.iN
  · exact hO.ilaw
  · exact hO.img
  · exact hO.kind
  · exact hO.pow
  · exact hO.pow1
  · exact hO.room
  · exact hO.sx
  · exact hO.sy
  · exact hO.more
  · exact hO.fed
  · intro i l (h0 : i < A.K + 1) (h1 : l < A.L)
    show (if i = A.K then g l else A.lab i l) < A.F
    by_cases e0 : i = A.K
    · rw [if_pos e0]; exact hg l h1
    · rw [if_neg e0]; exact hO.lab i l (by omega) h1
  · exact hO.size
  · exact hO.sort
  · exact hO.tape
  · exact hO.txt
  · exact hO.cok
  · exact hO.txl
theorem u_label_w {A : q_A} {y : Int32} {g : Nat → Nat} {d e2 : Nat → Nat → Int32} (hO : q_Ok A) (hR : q_Rw A d) (hK : A.K < 4) (hg : ∀ l, l < A.L → g l < A.F) (e : ∀ o k, o ≠ 98 + 3 * A.K ∧ o ≠ 99 + 3 * A.K ∧ ¬ (o = 97 + 3 * A.K ∧ k = 2) ∧ ¬ (o = 0 ∧ k = 16) → e2 o k = d o k) (n1 : ∀ l, l < A.L → e2 (98 + 3 * A.K) l = nI (g l)) (n2 : e2 (97 + 3 * A.K) 2 = y) (n3 : e2 0 16 = nI (A.K + 1)) : q_Rw (A.u_label y g) e2 := by
  have oF := hO.F; have oL := hO.L; have oH := hO.H; have oN := hO.N; have oK := hO.K; have oT := hO.T; have oB := hO.B
  refine ⟨?_, ?_, ?_, ?_, ?_, ?_, ?_, ?_, ?_, ?_, ?_, ?_, ?_, ?_, ?_, ?_, ?_, ?_, ?_, ?_, ?_, ?_, ?_, ?_, ?_, ?_, ?_, ?_, ?_, ?_, ?_, ?_, ?_, ?_, ?_, ?_, ?_, ?_, ?_, ?_, ?_, ?_, ?_, ?_, ?_, ?_, ?_, ?_, ?_⟩
  · rw [e _ _ (by omega)]; exact hR.F
  · rw [e _ _ (by omega)]; exact hR.L
  · rw [e _ _ (by omega)]; exact hR.H
  · exact n3
  · rw [e _ _ (by omega)]; exact hR.T
  · rw [e _ _ (by omega)]; exact hR.img
  · rw [e _ _ (by omega)]; exact hR.N
  · rw [e _ _ (by omega)]; exact hR.law
  · rw [e _ _ (by omega)]; exact hR.out
  · rw [e _ _ (by omega)]; exact hR.on
  · rw [e _ _ (by omega)]; exact hR.hour
  · rw [e _ _ (by omega)]; exact hR.slips
  · rw [e _ _ (by omega)]; exact hR.iN
  · rw [e _ _ (by omega)]; exact hR.ilaw
  · rw [e _ _ (by omega)]; exact hR.iout
  · rw [e _ _ (by omega)]; exact hR.ion
  · rw [e _ _ (by omega)]; exact hR.ihour
  · rw [e _ _ (by omega)]; exact hR.islips
  · rw [e _ _ (by omega)]; exact hR.B
  · intro i (h0 : i < A.B); rw [e _ _ (by omega)]; exact hR.tape _ h0
  · intro i (h0 : i < A.F); rw [e _ _ (by omega)]; exact hR.bears _ h0
  · intro i (h0 : i < A.F); rw [e _ _ (by omega)]; exact hR.times _ h0
  · intro i (h0 : i < 6); rw [e _ _ (by omega)]; exact hR.lends _ h0
  · intro l (h0 : l < A.L); rw [e _ _ (by omega)]; exact hR.kind _ h0
  · intro l (h0 : l < A.L); rw [e _ _ (by omega)]; exact hR.pow _ h0
  · intro l (h0 : l < A.L); rw [e _ _ (by omega)]; exact hR.room _ h0
  · intro l (h0 : l < A.L); rw [e _ _ (by omega)]; exact hR.sx _ h0
  · intro l (h0 : l < A.L); rw [e _ _ (by omega)]; exact hR.sy _ h0
  · intro l (h0 : l < A.L); rw [e _ _ (by omega)]; exact hR.more _ h0
  · intro h l (h0 : h < A.H) (h1 : l < A.L); rw [e _ _ (by omega)]; exact hR.fed _ _ h0 h1
  · intro h f (h0 : h < A.H) (h1 : f < 6); rw [e _ _ (by omega)]; exact hR.feeds _ _ h0 h1
  · intro h f (h0 : A.H ≤ h) (h1 : h < 12) (h2 : f < 6); rw [e _ _ (by omega)]; exact hR.feeds0 _ _ h0 h1 h2
  · intro i l (h0 : i < A.K + 1) (h1 : l < A.L)
    by_cases e0 : i = A.K
    · subst e0
      rw [n1 l h1]
      exact congrArg nI (if_pos rfl).symm
    · rw [e _ _ (by omega), hR.lab i l (by omega) h1]
      exact congrArg nI (if_neg e0).symm
  · intro i (h0 : i < A.K + 1)
    by_cases e0 : i = A.K
    · subst e0
      rw [n2]
      exact (if_pos rfl).symm
    · rw [e _ _ (by omega), hR.year i (by omega)]
      exact (if_neg e0).symm
  · intro k (h0 : k < 10); rw [e _ _ (by omega)]; exact hR.ao _ h0
  · intro k (h0 : k < 10); rw [e _ _ (by omega)]; exact hR.an _ h0
  · intro k (h0 : k < 10); rw [e _ _ (by omega)]; exact hR.ah _ h0
  · intro k (h0 : k < 10); rw [e _ _ (by omega)]; exact hR.ar _ h0
  · intro k (h0 : k < 10); rw [e _ _ (by omega)]; exact hR.az _ h0
  · intro k (h0 : k < 10); rw [e _ _ (by omega)]; exact hR.io _ h0
  · intro k (h0 : k < 10); rw [e _ _ (by omega)]; exact hR.inn _ h0
  · intro k (h0 : k < 10); rw [e _ _ (by omega)]; exact hR.ih _ h0
  · intro k (h0 : k < 10); rw [e _ _ (by omega)]; exact hR.ir _ h0
  · intro k (h0 : k < 10); rw [e _ _ (by omega)]; exact hR.iz _ h0
  · intro t p (h0 : t < A.T) (h1 : p < 3); rw [e _ _ (by omega)]; exact hR.ends _ _ h0 h1
  · intro t p i (h0 : t < A.T) (h1 : p < 3) (h2 : i < (A.txt t p).length); rw [e _ _ (by omega)]; exact hR.stp _ _ _ h0 h1 h2
  · intro s (h0 : s < 4); rw [e _ _ (by omega)]; exact hR.sort _ h0
  · intro s (h0 : s < 4); rw [e _ _ (by omega)]; exact hR.size _ h0
  · intro s i (h0 : s < 4) (h1 : i < 40); rw [e _ _ (by omega)]; exact hR.cell _ _ h0 h1
theorem u_label_r {A : q_A} {y : Int32} {g : Nat → Nat} {d e2 : Nat → Nat → Int32} (hO : q_Ok A) (hR : q_Rr A d) (hK : A.K < 4) (hg : ∀ l, l < A.L → g l < A.F) (e : ∀ o k, ¬ (o = 151 ∧ 10 * A.K ≤ k ∧ k < 10 * A.K + A.L) ∧ ¬ (o = 150 ∧ k = A.K) ∧ ¬ (o = 135 ∧ k = 22) → e2 o k = d o k) (n1 : ∀ l, l < A.L → e2 151 (10 * A.K + l) = nI (g l)) (n2 : e2 150 A.K = y) (n3 : e2 135 22 = nI (A.K + 1)) : q_Rr (A.u_label y g) e2 := by
  have oF := hO.F; have oL := hO.L; have oH := hO.H; have oN := hO.N; have oK := hO.K; have oT := hO.T; have oB := hO.B
  refine ⟨?_, ?_, ?_, ?_, ?_, ?_, ?_, ?_, ?_, ?_, ?_, ?_, ?_, ?_, ?_, ?_, ?_, ?_, ?_, ?_, ?_, ?_, ?_, ?_, ?_, ?_, ?_, ?_, ?_, ?_, ?_, ?_, ?_, ?_, ?_, ?_, ?_, ?_, ?_, ?_, ?_, ?_, ?_, ?_, ?_, ?_⟩
  · rw [e _ _ (by omega)]; exact hR.out
  · rw [e _ _ (by omega)]; exact hR.on
  · rw [e _ _ (by omega)]; exact hR.hour
  · rw [e _ _ (by omega)]; exact hR.slips
  · rw [e _ _ (by omega)]; exact hR.F
  · rw [e _ _ (by omega)]; exact hR.L
  · rw [e _ _ (by omega)]; exact hR.H
  · rw [e _ _ (by omega)]; exact hR.N
  · exact n3
  · rw [e _ _ (by omega)]; exact hR.B
  · rw [e _ _ (by omega)]; exact hR.T
  · rw [e _ _ (by omega)]; exact hR.law
  · rw [e _ _ (by omega)]; exact hR.img
  · rw [e _ _ (by omega)]; exact hR.iout
  · rw [e _ _ (by omega)]; exact hR.ion
  · rw [e _ _ (by omega)]; exact hR.ihour
  · rw [e _ _ (by omega)]; exact hR.islips
  · rw [e _ _ (by omega)]; exact hR.iN
  · rw [e _ _ (by omega)]; exact hR.ilaw
  · intro i (h0 : i < A.F); rw [e _ _ (by omega)]; exact hR.bears _ h0
  · intro i (h0 : i < A.F); rw [e _ _ (by omega)]; exact hR.times _ h0
  · intro l (h0 : l < A.L); rw [e _ _ (by omega)]; exact hR.kind _ h0
  · intro l (h0 : l < A.L); rw [e _ _ (by omega)]; exact hR.pow _ h0
  · intro l (h0 : l < A.L); rw [e _ _ (by omega)]; exact hR.room _ h0
  · intro l (h0 : l < A.L); rw [e _ _ (by omega)]; exact hR.sx _ h0
  · intro l (h0 : l < A.L); rw [e _ _ (by omega)]; exact hR.sy _ h0
  · intro l (h0 : l < A.L); rw [e _ _ (by omega)]; exact hR.more _ h0
  · intro h l (h0 : h < A.H) (h1 : l < A.L); rw [e _ _ (by omega)]; exact hR.fed _ _ h0 h1
  · intro k (h0 : k < 10); rw [e _ _ (by omega)]; exact hR.ao _ h0
  · intro k (h0 : k < 10); rw [e _ _ (by omega)]; exact hR.an _ h0
  · intro k (h0 : k < 10); rw [e _ _ (by omega)]; exact hR.ah _ h0
  · intro k (h0 : k < 10); rw [e _ _ (by omega)]; exact hR.ar _ h0
  · intro k (h0 : k < 10); rw [e _ _ (by omega)]; exact hR.az _ h0
  · intro i (h0 : i < A.K + 1)
    by_cases e0 : i = A.K
    · subst e0
      rw [n2]
      exact (if_pos rfl).symm
    · rw [e _ _ (by omega), hR.year i (by omega)]
      exact (if_neg e0).symm
  · intro i l (h0 : i < A.K + 1) (h1 : l < A.L)
    by_cases e0 : i = A.K
    · subst e0
      rw [n1 l h1]
      exact congrArg nI (if_pos rfl).symm
    · rw [e _ _ (by omega), hR.lab i l (by omega) h1]
      exact congrArg nI (if_neg e0).symm
  · intro i (h0 : i < A.B); rw [e _ _ (by omega)]; exact hR.tape _ h0
  · intro t p i (h0 : t < A.T) (h1 : p < 3) (h2 : i < (A.txt t p).length); rw [e _ _ (by omega)]; exact hR.cod _ _ _ h0 h1 h2
  · intro t p (h0 : t < A.T) (h1 : p < 4); rw [e _ _ (by omega)]; exact hR.starts _ _ h0 h1
  · intro k (h0 : k < 10); rw [e _ _ (by omega)]; exact hR.io _ h0
  · intro k (h0 : k < 10); rw [e _ _ (by omega)]; exact hR.inn _ h0
  · intro k (h0 : k < 10); rw [e _ _ (by omega)]; exact hR.ih _ h0
  · intro k (h0 : k < 10); rw [e _ _ (by omega)]; exact hR.ir _ h0
  · intro k (h0 : k < 10); rw [e _ _ (by omega)]; exact hR.iz _ h0
  · intro s (h0 : s < 4); rw [e _ _ (by omega)]; exact hR.sort _ h0
  · intro s (h0 : s < 4); rw [e _ _ (by omega)]; exact hR.size _ h0
  · intro s i (h0 : s < 4) (h1 : i < 40); rw [e _ _ (by omega)]; exact hR.cell _ _ h0 h1
/-! image -/
def q_A.u_image (A : q_A)  : q_A := ((((((((((((A).setN 19 (fun _ _ => 1)).setN 8 (fun _ _ => A.N)).setN 9 (fun _ _ => A.law)).setI 12 (fun _ _ => A.out)).setI 13 (fun _ _ => A.on)).setI 14 (fun _ _ => A.hour)).setI 15 (fun _ _ => A.slips)).setI 16 (fun i _ => A.ao i)).setI 17 (fun i _ => A.an i)).setI 18 (fun i _ => A.ah i)).setI 19 (fun i _ => A.ar i)).setI 20 (fun i _ => A.az i)
theorem u_image_ok {A : q_A}  (hO : q_Ok A)  : q_Ok (A.u_image) := by
  have oF := hO.F; have oL := hO.L; have oH := hO.H; have oN := hO.N; have oK := hO.K; have oT := hO.T; have oB := hO.B
  refine ⟨?_, ?_, ?_, ?_, ?_, ?_, ?_, ?_, ?_, ?_, ?_, ?_, ?_, ?_, ?_, ?_, ?_, ?_, ?_, ?_, ?_, ?_, ?_, ?_, ?_, ?_, ?_⟩
  · exact hO.F
  · exact hO.L
  · exact hO.H
  · exact hO.K
  · exact hO.T
  · exact hO.T0
  · exact hO.N
  · exact hO.B
  · exact hO.law
  · exact hO.N
  · exact hO.law
  · exact Nat.le_refl 1
  · exact hO.kind
  · exact hO.pow
  · exact hO.pow1
  · exact hO.room
  · exact hO.sx
  · exact hO.sy
  · exact hO.more
  · exact hO.fed
  · exact hO.lab
  · exact hO.size
  · exact hO.sort
  · exact hO.tape
  · exact hO.txt
  · exact hO.cok
  · exact hO.txl
theorem u_image_w {A : q_A}  {d e2 : Nat → Nat → Int32} (hO : q_Ok A) (hR : q_Rw A d)  (e : ∀ o k, ¬ (20 ≤ o ∧ o ≤ 32) ∧ ¬ (o = 0 ∧ k = 18) → e2 o k = d o k) (n0 : e2 20 2 = nI A.N) (n1 : e2 20 3 = nI A.law) (m0 : e2 21 0 = A.out) (m1 : e2 21 1 = A.on) (m2 : e2 21 2 = A.hour) (m3 : e2 21 3 = A.slips) (a0 : ∀ k, k < 10 → e2 (23 + k) 0 = A.ao k) (a1 : ∀ k, k < 10 → e2 (23 + k) 1 = A.an k) (a2 : ∀ k, k < 10 → e2 (23 + k) 2 = A.ah k) (a3 : ∀ k, k < 10 → e2 (23 + k) 3 = A.ar k) (a4 : ∀ k, k < 10 → e2 (23 + k) 4 = A.az k) (n2 : e2 0 18 = nI 1) : q_Rw (A.u_image) e2 := by
  have oF := hO.F; have oL := hO.L; have oH := hO.H; have oN := hO.N; have oK := hO.K; have oT := hO.T; have oB := hO.B
  refine ⟨?_, ?_, ?_, ?_, ?_, ?_, ?_, ?_, ?_, ?_, ?_, ?_, ?_, ?_, ?_, ?_, ?_, ?_, ?_, ?_, ?_, ?_, ?_, ?_, ?_, ?_, ?_, ?_, ?_, ?_, ?_, ?_, ?_, ?_, ?_, ?_, ?_, ?_, ?_, ?_, ?_, ?_, ?_, ?_, ?_, ?_, ?_, ?_, ?_⟩
  · rw [e _ _ (by omega)]; exact hR.F
  · rw [e _ _ (by omega)]; exact hR.L
  · rw [e _ _ (by omega)]; exact hR.H
  · rw [e _ _ (by omega)]; exact hR.K
  · rw [e _ _ (by omega)]; exact hR.T
  · exact n2
  · rw [e _ _ (by omega)]; exact hR.N
  · rw [e _ _ (by omega)]; exact hR.law
  · rw [e _ _ (by omega)]; exact hR.out
  · rw [e _ _ (by omega)]; exact hR.on
  · rw [e _ _ (by omega)]; exact hR.hour
  · rw [e _ _ (by omega)]; exact hR.slips
  · exact n0
  · exact n1
  · exact m0
  · exact m1
  · exact m2
  · exact m3
  · rw [e _ _ (by omega)]; exact hR.B
  · intro i (h0 : i < A.B); rw [e _ _ (by omega)]; exact hR.tape _ h0
  · intro i (h0 : i < A.F); rw [e _ _ (by omega)]; exact hR.bears _ h0
  · intro i (h0 : i < A.F); rw [e _ _ (by omega)]; exact hR.times _ h0
  · intro i (h0 : i < 6); rw [e _ _ (by omega)]; exact hR.lends _ h0
  · intro l (h0 : l < A.L); rw [e _ _ (by omega)]; exact hR.kind _ h0
  · intro l (h0 : l < A.L); rw [e _ _ (by omega)]; exact hR.pow _ h0
  · intro l (h0 : l < A.L); rw [e _ _ (by omega)]; exact hR.room _ h0
  · intro l (h0 : l < A.L); rw [e _ _ (by omega)]; exact hR.sx _ h0
  · intro l (h0 : l < A.L); rw [e _ _ (by omega)]; exact hR.sy _ h0
  · intro l (h0 : l < A.L); rw [e _ _ (by omega)]; exact hR.more _ h0
  · intro h l (h0 : h < A.H) (h1 : l < A.L); rw [e _ _ (by omega)]; exact hR.fed _ _ h0 h1
  · intro h f (h0 : h < A.H) (h1 : f < 6); rw [e _ _ (by omega)]; exact hR.feeds _ _ h0 h1
  · intro h f (h0 : A.H ≤ h) (h1 : h < 12) (h2 : f < 6); rw [e _ _ (by omega)]; exact hR.feeds0 _ _ h0 h1 h2
  · intro k l (h0 : k < A.K) (h1 : l < A.L); rw [e _ _ (by omega)]; exact hR.lab _ _ h0 h1
  · intro k (h0 : k < A.K); rw [e _ _ (by omega)]; exact hR.year _ h0
  · intro k (h0 : k < 10); rw [e _ _ (by omega)]; exact hR.ao _ h0
  · intro k (h0 : k < 10); rw [e _ _ (by omega)]; exact hR.an _ h0
  · intro k (h0 : k < 10); rw [e _ _ (by omega)]; exact hR.ah _ h0
  · intro k (h0 : k < 10); rw [e _ _ (by omega)]; exact hR.ar _ h0
  · intro k (h0 : k < 10); rw [e _ _ (by omega)]; exact hR.az _ h0
  · exact a0
  · exact a1
  · exact a2
  · exact a3
  · exact a4
  · intro t p (h0 : t < A.T) (h1 : p < 3); rw [e _ _ (by omega)]; exact hR.ends _ _ h0 h1
  · intro t p i (h0 : t < A.T) (h1 : p < 3) (h2 : i < (A.txt t p).length); rw [e _ _ (by omega)]; exact hR.stp _ _ _ h0 h1 h2
  · intro s (h0 : s < 4); rw [e _ _ (by omega)]; exact hR.sort _ h0
  · intro s (h0 : s < 4); rw [e _ _ (by omega)]; exact hR.size _ h0
  · intro s i (h0 : s < 4) (h1 : i < 40); rw [e _ _ (by omega)]; exact hR.cell _ _ h0 h1
theorem u_image_r {A : q_A}  {d e2 : Nat → Nat → Int32} (hO : q_Ok A) (hR : q_Rr A d)  (e : ∀ o k, ¬ (o = 135 ∧ 31 ≤ k ∧ k ≤ 37) ∧ ¬ (155 ≤ o ∧ o ≤ 159) → e2 o k = d o k) (n2 : e2 135 31 = nI 1) (m0 : e2 135 32 = A.out) (m1 : e2 135 33 = A.on) (m2 : e2 135 34 = A.hour) (m3 : e2 135 35 = A.slips) (n0 : e2 135 36 = nI A.N) (n1 : e2 135 37 = nI A.law) (a0 : ∀ k, k < 10 → e2 155 k = A.ao k) (a1 : ∀ k, k < 10 → e2 156 k = A.an k) (a2 : ∀ k, k < 10 → e2 157 k = A.ah k) (a3 : ∀ k, k < 10 → e2 158 k = A.ar k) (a4 : ∀ k, k < 10 → e2 159 k = A.az k) : q_Rr (A.u_image) e2 := by
  have oF := hO.F; have oL := hO.L; have oH := hO.H; have oN := hO.N; have oK := hO.K; have oT := hO.T; have oB := hO.B
  refine ⟨?_, ?_, ?_, ?_, ?_, ?_, ?_, ?_, ?_, ?_, ?_, ?_, ?_, ?_, ?_, ?_, ?_, ?_, ?_, ?_, ?_, ?_, ?_, ?_, ?_, ?_, ?_, ?_, ?_, ?_, ?_, ?_, ?_, ?_, ?_, ?_, ?_, ?_, ?_, ?_, ?_, ?_, ?_, ?_, ?_, ?_⟩
  · rw [e _ _ (by omega)]; exact hR.out
  · rw [e _ _ (by omega)]; exact hR.on
  · rw [e _ _ (by omega)]; exact hR.hour
  · rw [e _ _ (by omega)]; exact hR.slips
  · rw [e _ _ (by omega)]; exact hR.F
  · rw [e _ _ (by omega)]; exact hR.L
  · rw [e _ _ (by omega)]; exact hR.H
  · rw [e _ _ (by omega)]; exact hR.N
  · rw [e _ _ (by omega)]; exact hR.K
  · rw [e _ _ (by omega)]; exact hR.B
  · rw [e _ _ (by omega)]; exact hR.T
  · rw [e _ _ (by omega)]; exact hR.law
  · exact n2
  · exact m0
  · exact m1
  · exact m2
  · exact m3
  · exact n0
  · exact n1
  · intro i (h0 : i < A.F); rw [e _ _ (by omega)]; exact hR.bears _ h0
  · intro i (h0 : i < A.F); rw [e _ _ (by omega)]; exact hR.times _ h0
  · intro l (h0 : l < A.L); rw [e _ _ (by omega)]; exact hR.kind _ h0
  · intro l (h0 : l < A.L); rw [e _ _ (by omega)]; exact hR.pow _ h0
  · intro l (h0 : l < A.L); rw [e _ _ (by omega)]; exact hR.room _ h0
  · intro l (h0 : l < A.L); rw [e _ _ (by omega)]; exact hR.sx _ h0
  · intro l (h0 : l < A.L); rw [e _ _ (by omega)]; exact hR.sy _ h0
  · intro l (h0 : l < A.L); rw [e _ _ (by omega)]; exact hR.more _ h0
  · intro h l (h0 : h < A.H) (h1 : l < A.L); rw [e _ _ (by omega)]; exact hR.fed _ _ h0 h1
  · intro k (h0 : k < 10); rw [e _ _ (by omega)]; exact hR.ao _ h0
  · intro k (h0 : k < 10); rw [e _ _ (by omega)]; exact hR.an _ h0
  · intro k (h0 : k < 10); rw [e _ _ (by omega)]; exact hR.ah _ h0
  · intro k (h0 : k < 10); rw [e _ _ (by omega)]; exact hR.ar _ h0
  · intro k (h0 : k < 10); rw [e _ _ (by omega)]; exact hR.az _ h0
  · intro k (h0 : k < A.K); rw [e _ _ (by omega)]; exact hR.year _ h0
  · intro k l (h0 : k < A.K) (h1 : l < A.L); rw [e _ _ (by omega)]; exact hR.lab _ _ h0 h1
  · intro i (h0 : i < A.B); rw [e _ _ (by omega)]; exact hR.tape _ h0
  · intro t p i (h0 : t < A.T) (h1 : p < 3) (h2 : i < (A.txt t p).length); rw [e _ _ (by omega)]; exact hR.cod _ _ _ h0 h1 h2
  · intro t p (h0 : t < A.T) (h1 : p < 4); rw [e _ _ (by omega)]; exact hR.starts _ _ h0 h1
  · exact a0
  · exact a1
  · exact a2
  · exact a3
  · exact a4
  · intro s (h0 : s < 4); rw [e _ _ (by omega)]; exact hR.sort _ h0
  · intro s (h0 : s < 4); rw [e _ _ (by omega)]; exact hR.size _ h0
  · intro s i (h0 : s < 4) (h1 : i < 40); rw [e _ _ (by omega)]; exact hR.cell _ _ h0 h1
/-! back -/
def q_A.u_back (A : q_A)  : q_A := (((((((((((A).setN 5 (fun _ _ => A.iN)).setN 7 (fun _ _ => A.ilaw)).setI 0 (fun _ _ => A.iout)).setI 1 (fun _ _ => A.ion)).setI 2 (fun _ _ => A.ihour)).setI 3 (fun _ _ => A.islips)).setI 7 (fun i _ => A.io i)).setI 8 (fun i _ => A.inn i)).setI 9 (fun i _ => A.ih i)).setI 10 (fun i _ => A.ir i)).setI 11 (fun i _ => A.iz i)
theorem u_back_ok {A : q_A}  (hO : q_Ok A)  : q_Ok (A.u_back) := by
  have oF := hO.F; have oL := hO.L; have oH := hO.H; have oN := hO.N; have oK := hO.K; have oT := hO.T; have oB := hO.B
  refine ⟨?_, ?_, ?_, ?_, ?_, ?_, ?_, ?_, ?_, ?_, ?_, ?_, ?_, ?_, ?_, ?_, ?_, ?_, ?_, ?_, ?_, ?_, ?_, ?_, ?_, ?_, ?_⟩
  · exact hO.F
  · exact hO.L
  · exact hO.H
  · exact hO.K
  · exact hO.T
  · exact hO.T0
  · exact hO.iN
  · exact hO.B
  · exact hO.ilaw
  · exact hO.iN
  · exact hO.ilaw
  · exact hO.img
  · exact hO.kind
  · exact hO.pow
  · exact hO.pow1
  · exact hO.room
  · exact hO.sx
  · exact hO.sy
  · exact hO.more
  · exact hO.fed
  · exact hO.lab
  · exact hO.size
  · exact hO.sort
  · exact hO.tape
  · exact hO.txt
  · exact hO.cok
  · exact hO.txl
theorem u_back_w {A : q_A}  {d e2 : Nat → Nat → Int32} (hO : q_Ok A) (hR : q_Rw A d)  (e : ∀ o k, ¬ (7 ≤ o ∧ o ≤ 19) → e2 o k = d o k) (n0 : e2 7 2 = nI A.iN) (n1 : e2 7 3 = nI A.ilaw) (m0 : e2 8 0 = A.iout) (m1 : e2 8 1 = A.ion) (m2 : e2 8 2 = A.ihour) (m3 : e2 8 3 = A.islips) (a0 : ∀ k, k < 10 → e2 (10 + k) 0 = A.io k) (a1 : ∀ k, k < 10 → e2 (10 + k) 1 = A.inn k) (a2 : ∀ k, k < 10 → e2 (10 + k) 2 = A.ih k) (a3 : ∀ k, k < 10 → e2 (10 + k) 3 = A.ir k) (a4 : ∀ k, k < 10 → e2 (10 + k) 4 = A.iz k) : q_Rw (A.u_back) e2 := by
  have oF := hO.F; have oL := hO.L; have oH := hO.H; have oN := hO.N; have oK := hO.K; have oT := hO.T; have oB := hO.B
  refine ⟨?_, ?_, ?_, ?_, ?_, ?_, ?_, ?_, ?_, ?_, ?_, ?_, ?_, ?_, ?_, ?_, ?_, ?_, ?_, ?_, ?_, ?_, ?_, ?_, ?_, ?_, ?_, ?_, ?_, ?_, ?_, ?_, ?_, ?_, ?_, ?_, ?_, ?_, ?_, ?_, ?_, ?_, ?_, ?_, ?_, ?_, ?_, ?_, ?_⟩
  · rw [e _ _ (by omega)]; exact hR.F
  · rw [e _ _ (by omega)]; exact hR.L
  · rw [e _ _ (by omega)]; exact hR.H
  · rw [e _ _ (by omega)]; exact hR.K
  · rw [e _ _ (by omega)]; exact hR.T
  · rw [e _ _ (by omega)]; exact hR.img
  · exact n0
  · exact n1
  · exact m0
  · exact m1
  · exact m2
  · exact m3
  · rw [e _ _ (by omega)]; exact hR.iN
  · rw [e _ _ (by omega)]; exact hR.ilaw
  · rw [e _ _ (by omega)]; exact hR.iout
  · rw [e _ _ (by omega)]; exact hR.ion
  · rw [e _ _ (by omega)]; exact hR.ihour
  · rw [e _ _ (by omega)]; exact hR.islips
  · rw [e _ _ (by omega)]; exact hR.B
  · intro i (h0 : i < A.B); rw [e _ _ (by omega)]; exact hR.tape _ h0
  · intro i (h0 : i < A.F); rw [e _ _ (by omega)]; exact hR.bears _ h0
  · intro i (h0 : i < A.F); rw [e _ _ (by omega)]; exact hR.times _ h0
  · intro i (h0 : i < 6); rw [e _ _ (by omega)]; exact hR.lends _ h0
  · intro l (h0 : l < A.L); rw [e _ _ (by omega)]; exact hR.kind _ h0
  · intro l (h0 : l < A.L); rw [e _ _ (by omega)]; exact hR.pow _ h0
  · intro l (h0 : l < A.L); rw [e _ _ (by omega)]; exact hR.room _ h0
  · intro l (h0 : l < A.L); rw [e _ _ (by omega)]; exact hR.sx _ h0
  · intro l (h0 : l < A.L); rw [e _ _ (by omega)]; exact hR.sy _ h0
  · intro l (h0 : l < A.L); rw [e _ _ (by omega)]; exact hR.more _ h0
  · intro h l (h0 : h < A.H) (h1 : l < A.L); rw [e _ _ (by omega)]; exact hR.fed _ _ h0 h1
  · intro h f (h0 : h < A.H) (h1 : f < 6); rw [e _ _ (by omega)]; exact hR.feeds _ _ h0 h1
  · intro h f (h0 : A.H ≤ h) (h1 : h < 12) (h2 : f < 6); rw [e _ _ (by omega)]; exact hR.feeds0 _ _ h0 h1 h2
  · intro k l (h0 : k < A.K) (h1 : l < A.L); rw [e _ _ (by omega)]; exact hR.lab _ _ h0 h1
  · intro k (h0 : k < A.K); rw [e _ _ (by omega)]; exact hR.year _ h0
  · exact a0
  · exact a1
  · exact a2
  · exact a3
  · exact a4
  · intro k (h0 : k < 10); rw [e _ _ (by omega)]; exact hR.io _ h0
  · intro k (h0 : k < 10); rw [e _ _ (by omega)]; exact hR.inn _ h0
  · intro k (h0 : k < 10); rw [e _ _ (by omega)]; exact hR.ih _ h0
  · intro k (h0 : k < 10); rw [e _ _ (by omega)]; exact hR.ir _ h0
  · intro k (h0 : k < 10); rw [e _ _ (by omega)]; exact hR.iz _ h0
  · intro t p (h0 : t < A.T) (h1 : p < 3); rw [e _ _ (by omega)]; exact hR.ends _ _ h0 h1
  · intro t p i (h0 : t < A.T) (h1 : p < 3) (h2 : i < (A.txt t p).length); rw [e _ _ (by omega)]; exact hR.stp _ _ _ h0 h1 h2
  · intro s (h0 : s < 4); rw [e _ _ (by omega)]; exact hR.sort _ h0
  · intro s (h0 : s < 4); rw [e _ _ (by omega)]; exact hR.size _ h0
  · intro s i (h0 : s < 4) (h1 : i < 40); rw [e _ _ (by omega)]; exact hR.cell _ _ h0 h1
theorem u_back_r {A : q_A}  {d e2 : Nat → Nat → Int32} (hO : q_Ok A) (hR : q_Rr A d)  (e : ∀ o k, ¬ (o = 135 ∧ k ≤ 3) ∧ ¬ (o = 135 ∧ k = 16) ∧ ¬ (o = 135 ∧ k = 30) ∧ ¬ (145 ≤ o ∧ o ≤ 149) → e2 o k = d o k) (m0 : e2 135 0 = A.iout) (m1 : e2 135 1 = A.ion) (m2 : e2 135 2 = A.ihour) (m3 : e2 135 3 = A.islips) (n0 : e2 135 16 = nI A.iN) (n1 : e2 135 30 = nI A.ilaw) (a0 : ∀ k, k < 10 → e2 145 k = A.io k) (a1 : ∀ k, k < 10 → e2 146 k = A.inn k) (a2 : ∀ k, k < 10 → e2 147 k = A.ih k) (a3 : ∀ k, k < 10 → e2 148 k = A.ir k) (a4 : ∀ k, k < 10 → e2 149 k = A.iz k) : q_Rr (A.u_back) e2 := by
  have oF := hO.F; have oL := hO.L; have oH := hO.H; have oN := hO.N; have oK := hO.K; have oT := hO.T; have oB := hO.B
  refine ⟨?_, ?_, ?_, ?_, ?_, ?_, ?_, ?_, ?_, ?_, ?_, ?_, ?_, ?_, ?_, ?_, ?_, ?_, ?_, ?_, ?_, ?_, ?_, ?_, ?_, ?_, ?_, ?_, ?_, ?_, ?_, ?_, ?_, ?_, ?_, ?_, ?_, ?_, ?_, ?_, ?_, ?_, ?_, ?_, ?_, ?_⟩
  · exact m0
  · exact m1
  · exact m2
  · exact m3
  · rw [e _ _ (by omega)]; exact hR.F
  · rw [e _ _ (by omega)]; exact hR.L
  · rw [e _ _ (by omega)]; exact hR.H
  · exact n0
  · rw [e _ _ (by omega)]; exact hR.K
  · rw [e _ _ (by omega)]; exact hR.B
  · rw [e _ _ (by omega)]; exact hR.T
  · exact n1
  · rw [e _ _ (by omega)]; exact hR.img
  · rw [e _ _ (by omega)]; exact hR.iout
  · rw [e _ _ (by omega)]; exact hR.ion
  · rw [e _ _ (by omega)]; exact hR.ihour
  · rw [e _ _ (by omega)]; exact hR.islips
  · rw [e _ _ (by omega)]; exact hR.iN
  · rw [e _ _ (by omega)]; exact hR.ilaw
  · intro i (h0 : i < A.F); rw [e _ _ (by omega)]; exact hR.bears _ h0
  · intro i (h0 : i < A.F); rw [e _ _ (by omega)]; exact hR.times _ h0
  · intro l (h0 : l < A.L); rw [e _ _ (by omega)]; exact hR.kind _ h0
  · intro l (h0 : l < A.L); rw [e _ _ (by omega)]; exact hR.pow _ h0
  · intro l (h0 : l < A.L); rw [e _ _ (by omega)]; exact hR.room _ h0
  · intro l (h0 : l < A.L); rw [e _ _ (by omega)]; exact hR.sx _ h0
  · intro l (h0 : l < A.L); rw [e _ _ (by omega)]; exact hR.sy _ h0
  · intro l (h0 : l < A.L); rw [e _ _ (by omega)]; exact hR.more _ h0
  · intro h l (h0 : h < A.H) (h1 : l < A.L); rw [e _ _ (by omega)]; exact hR.fed _ _ h0 h1
  · exact a0
  · exact a1
  · exact a2
  · exact a3
  · exact a4
  · intro k (h0 : k < A.K); rw [e _ _ (by omega)]; exact hR.year _ h0
  · intro k l (h0 : k < A.K) (h1 : l < A.L); rw [e _ _ (by omega)]; exact hR.lab _ _ h0 h1
  · intro i (h0 : i < A.B); rw [e _ _ (by omega)]; exact hR.tape _ h0
  · intro t p i (h0 : t < A.T) (h1 : p < 3) (h2 : i < (A.txt t p).length); rw [e _ _ (by omega)]; exact hR.cod _ _ _ h0 h1 h2
  · intro t p (h0 : t < A.T) (h1 : p < 4); rw [e _ _ (by omega)]; exact hR.starts _ _ h0 h1
  · intro k (h0 : k < 10); rw [e _ _ (by omega)]; exact hR.io _ h0
  · intro k (h0 : k < 10); rw [e _ _ (by omega)]; exact hR.inn _ h0
  · intro k (h0 : k < 10); rw [e _ _ (by omega)]; exact hR.ih _ h0
  · intro k (h0 : k < 10); rw [e _ _ (by omega)]; exact hR.ir _ h0
  · intro k (h0 : k < 10); rw [e _ _ (by omega)]; exact hR.iz _ h0
  · intro s (h0 : s < 4); rw [e _ _ (by omega)]; exact hR.sort _ h0
  · intro s (h0 : s < 4); rw [e _ _ (by omega)]; exact hR.size _ h0
  · intro s i (h0 : s < 4) (h1 : i < 40); rw [e _ _ (by omega)]; exact hR.cell _ _ h0 h1
/-! feed -/
def q_A.u_feed (A : q_A) (n : Nat) (b : Nat → Int32) : q_A := ((A).setN 6 (fun _ _ => A.B + n)).setI 21 (fun i _ => if i < A.B then A.tape i else b i)
theorem u_feed_ok {A : q_A} {n : Nat} {b : Nat → Int32} (hO : q_Ok A) (hB : A.B + n ≤ 160) (hb : ∀ i, A.B ≤ i → i < A.B + n → 0 ≤ b i ∧ b i ≤ 255) : q_Ok (A.u_feed n b) := by
  have oF := hO.F; have oL := hO.L; have oH := hO.H; have oN := hO.N; have oK := hO.K; have oT := hO.T; have oB := hO.B
  refine ⟨?_, ?_, ?_, ?_, ?_, ?_, ?_, ?_, ?_, ?_, ?_, ?_, ?_, ?_, ?_, ?_, ?_, ?_, ?_, ?_, ?_, ?_, ?_, ?_, ?_, ?_, ?_⟩
  · exact hO.F
  · exact hO.L
  · exact hO.H
  · exact hO.K
  · exact hO.T
  · exact hO.T0
  · exact hO.N
  · exact hB
  · exact hO.law
  · exact hO.iN
  · exact hO.ilaw
  · exact hO.img
  · exact hO.kind
  · exact hO.pow
  · exact hO.pow1
  · exact hO.room
  · exact hO.sx
  · exact hO.sy
  · exact hO.more
  · exact hO.fed
  · exact hO.lab
  · exact hO.size
  · exact hO.sort
  · intro i (h0 : i < A.B + n)
    show 0 ≤ (if i < A.B then A.tape i else b i) ∧ (if i < A.B then A.tape i else b i) ≤ 255
    by_cases e0 : i < A.B
    · rw [if_pos e0]; exact hO.tape i e0
    · rw [if_neg e0]; exact hb i (by omega) h0
  · exact hO.txt
  · exact hO.cok
  · exact hO.txl
theorem u_feed_w {A : q_A} {n : Nat} {b : Nat → Int32} {d e2 : Nat → Nat → Int32} (hO : q_Ok A) (hR : q_Rw A d) (hB : A.B + n ≤ 160) (hb : ∀ i, A.B ≤ i → i < A.B + n → 0 ≤ b i ∧ b i ≤ 255) (e : ∀ o k, ¬ (o = 34 ∧ A.B ≤ k ∧ k < A.B + n) ∧ ¬ (o = 33 ∧ k = 1) → e2 o k = d o k) (n1 : ∀ i, A.B ≤ i → i < A.B + n → e2 34 i = b i) (n2 : e2 33 1 = nI (A.B + n)) : q_Rw (A.u_feed n b) e2 := by
  have oF := hO.F; have oL := hO.L; have oH := hO.H; have oN := hO.N; have oK := hO.K; have oT := hO.T; have oB := hO.B
  refine ⟨?_, ?_, ?_, ?_, ?_, ?_, ?_, ?_, ?_, ?_, ?_, ?_, ?_, ?_, ?_, ?_, ?_, ?_, ?_, ?_, ?_, ?_, ?_, ?_, ?_, ?_, ?_, ?_, ?_, ?_, ?_, ?_, ?_, ?_, ?_, ?_, ?_, ?_, ?_, ?_, ?_, ?_, ?_, ?_, ?_, ?_, ?_, ?_, ?_⟩
  · rw [e _ _ (by omega)]; exact hR.F
  · rw [e _ _ (by omega)]; exact hR.L
  · rw [e _ _ (by omega)]; exact hR.H
  · rw [e _ _ (by omega)]; exact hR.K
  · rw [e _ _ (by omega)]; exact hR.T
  · rw [e _ _ (by omega)]; exact hR.img
  · rw [e _ _ (by omega)]; exact hR.N
  · rw [e _ _ (by omega)]; exact hR.law
  · rw [e _ _ (by omega)]; exact hR.out
  · rw [e _ _ (by omega)]; exact hR.on
  · rw [e _ _ (by omega)]; exact hR.hour
  · rw [e _ _ (by omega)]; exact hR.slips
  · rw [e _ _ (by omega)]; exact hR.iN
  · rw [e _ _ (by omega)]; exact hR.ilaw
  · rw [e _ _ (by omega)]; exact hR.iout
  · rw [e _ _ (by omega)]; exact hR.ion
  · rw [e _ _ (by omega)]; exact hR.ihour
  · rw [e _ _ (by omega)]; exact hR.islips
  · exact n2
  · intro i (h0 : i < A.B + n)
    by_cases e0 : i < A.B
    · rw [e _ _ (by omega), hR.tape i e0]
      exact (if_pos e0).symm
    · rw [n1 i (by omega) (by omega)]
      exact (if_neg e0).symm
  · intro i (h0 : i < A.F); rw [e _ _ (by omega)]; exact hR.bears _ h0
  · intro i (h0 : i < A.F); rw [e _ _ (by omega)]; exact hR.times _ h0
  · intro i (h0 : i < 6); rw [e _ _ (by omega)]; exact hR.lends _ h0
  · intro l (h0 : l < A.L); rw [e _ _ (by omega)]; exact hR.kind _ h0
  · intro l (h0 : l < A.L); rw [e _ _ (by omega)]; exact hR.pow _ h0
  · intro l (h0 : l < A.L); rw [e _ _ (by omega)]; exact hR.room _ h0
  · intro l (h0 : l < A.L); rw [e _ _ (by omega)]; exact hR.sx _ h0
  · intro l (h0 : l < A.L); rw [e _ _ (by omega)]; exact hR.sy _ h0
  · intro l (h0 : l < A.L); rw [e _ _ (by omega)]; exact hR.more _ h0
  · intro h l (h0 : h < A.H) (h1 : l < A.L); rw [e _ _ (by omega)]; exact hR.fed _ _ h0 h1
  · intro h f (h0 : h < A.H) (h1 : f < 6); rw [e _ _ (by omega)]; exact hR.feeds _ _ h0 h1
  · intro h f (h0 : A.H ≤ h) (h1 : h < 12) (h2 : f < 6); rw [e _ _ (by omega)]; exact hR.feeds0 _ _ h0 h1 h2
  · intro k l (h0 : k < A.K) (h1 : l < A.L); rw [e _ _ (by omega)]; exact hR.lab _ _ h0 h1
  · intro k (h0 : k < A.K); rw [e _ _ (by omega)]; exact hR.year _ h0
  · intro k (h0 : k < 10); rw [e _ _ (by omega)]; exact hR.ao _ h0
  · intro k (h0 : k < 10); rw [e _ _ (by omega)]; exact hR.an _ h0
  · intro k (h0 : k < 10); rw [e _ _ (by omega)]; exact hR.ah _ h0
  · intro k (h0 : k < 10); rw [e _ _ (by omega)]; exact hR.ar _ h0
  · intro k (h0 : k < 10); rw [e _ _ (by omega)]; exact hR.az _ h0
  · intro k (h0 : k < 10); rw [e _ _ (by omega)]; exact hR.io _ h0
  · intro k (h0 : k < 10); rw [e _ _ (by omega)]; exact hR.inn _ h0
  · intro k (h0 : k < 10); rw [e _ _ (by omega)]; exact hR.ih _ h0
  · intro k (h0 : k < 10); rw [e _ _ (by omega)]; exact hR.ir _ h0
  · intro k (h0 : k < 10); rw [e _ _ (by omega)]; exact hR.iz _ h0
  · intro t p (h0 : t < A.T) (h1 : p < 3); rw [e _ _ (by omega)]; exact hR.ends _ _ h0 h1
  · intro t p i (h0 : t < A.T) (h1 : p < 3) (h2 : i < (A.txt t p).length); rw [e _ _ (by omega)]; exact hR.stp _ _ _ h0 h1 h2
  · intro s (h0 : s < 4); rw [e _ _ (by omega)]; exact hR.sort _ h0
  · intro s (h0 : s < 4); rw [e _ _ (by omega)]; exact hR.size _ h0
  · intro s i (h0 : s < 4) (h1 : i < 40); rw [e _ _ (by omega)]; exact hR.cell _ _ h0 h1
theorem u_feed_r {A : q_A} {n : Nat} {b : Nat → Int32} {d e2 : Nat → Nat → Int32} (hO : q_Ok A) (hR : q_Rr A d) (hB : A.B + n ≤ 160) (hb : ∀ i, A.B ≤ i → i < A.B + n → 0 ≤ b i ∧ b i ≤ 255) (e : ∀ o k, ¬ (o = 152 ∧ A.B ≤ k ∧ k < A.B + n) ∧ ¬ (o = 135 ∧ k = 26) → e2 o k = d o k) (n1 : ∀ i, A.B ≤ i → i < A.B + n → e2 152 i = b i) (n2 : e2 135 26 = nI (A.B + n)) : q_Rr (A.u_feed n b) e2 := by
  have oF := hO.F; have oL := hO.L; have oH := hO.H; have oN := hO.N; have oK := hO.K; have oT := hO.T; have oB := hO.B
  refine ⟨?_, ?_, ?_, ?_, ?_, ?_, ?_, ?_, ?_, ?_, ?_, ?_, ?_, ?_, ?_, ?_, ?_, ?_, ?_, ?_, ?_, ?_, ?_, ?_, ?_, ?_, ?_, ?_, ?_, ?_, ?_, ?_, ?_, ?_, ?_, ?_, ?_, ?_, ?_, ?_, ?_, ?_, ?_, ?_, ?_, ?_⟩
  · rw [e _ _ (by omega)]; exact hR.out
  · rw [e _ _ (by omega)]; exact hR.on
  · rw [e _ _ (by omega)]; exact hR.hour
  · rw [e _ _ (by omega)]; exact hR.slips
  · rw [e _ _ (by omega)]; exact hR.F
  · rw [e _ _ (by omega)]; exact hR.L
  · rw [e _ _ (by omega)]; exact hR.H
  · rw [e _ _ (by omega)]; exact hR.N
  · rw [e _ _ (by omega)]; exact hR.K
  · exact n2
  · rw [e _ _ (by omega)]; exact hR.T
  · rw [e _ _ (by omega)]; exact hR.law
  · rw [e _ _ (by omega)]; exact hR.img
  · rw [e _ _ (by omega)]; exact hR.iout
  · rw [e _ _ (by omega)]; exact hR.ion
  · rw [e _ _ (by omega)]; exact hR.ihour
  · rw [e _ _ (by omega)]; exact hR.islips
  · rw [e _ _ (by omega)]; exact hR.iN
  · rw [e _ _ (by omega)]; exact hR.ilaw
  · intro i (h0 : i < A.F); rw [e _ _ (by omega)]; exact hR.bears _ h0
  · intro i (h0 : i < A.F); rw [e _ _ (by omega)]; exact hR.times _ h0
  · intro l (h0 : l < A.L); rw [e _ _ (by omega)]; exact hR.kind _ h0
  · intro l (h0 : l < A.L); rw [e _ _ (by omega)]; exact hR.pow _ h0
  · intro l (h0 : l < A.L); rw [e _ _ (by omega)]; exact hR.room _ h0
  · intro l (h0 : l < A.L); rw [e _ _ (by omega)]; exact hR.sx _ h0
  · intro l (h0 : l < A.L); rw [e _ _ (by omega)]; exact hR.sy _ h0
  · intro l (h0 : l < A.L); rw [e _ _ (by omega)]; exact hR.more _ h0
  · intro h l (h0 : h < A.H) (h1 : l < A.L); rw [e _ _ (by omega)]; exact hR.fed _ _ h0 h1
  · intro k (h0 : k < 10); rw [e _ _ (by omega)]; exact hR.ao _ h0
  · intro k (h0 : k < 10); rw [e _ _ (by omega)]; exact hR.an _ h0
  · intro k (h0 : k < 10); rw [e _ _ (by omega)]; exact hR.ah _ h0
  · intro k (h0 : k < 10); rw [e _ _ (by omega)]; exact hR.ar _ h0
  · intro k (h0 : k < 10); rw [e _ _ (by omega)]; exact hR.az _ h0
  · intro k (h0 : k < A.K); rw [e _ _ (by omega)]; exact hR.year _ h0
  · intro k l (h0 : k < A.K) (h1 : l < A.L); rw [e _ _ (by omega)]; exact hR.lab _ _ h0 h1
  · intro i (h0 : i < A.B + n)
    by_cases e0 : i < A.B
    · rw [e _ _ (by omega), hR.tape i e0]
      exact (if_pos e0).symm
    · rw [n1 i (by omega) (by omega)]
      exact (if_neg e0).symm
  · intro t p i (h0 : t < A.T) (h1 : p < 3) (h2 : i < (A.txt t p).length); rw [e _ _ (by omega)]; exact hR.cod _ _ _ h0 h1 h2
  · intro t p (h0 : t < A.T) (h1 : p < 4); rw [e _ _ (by omega)]; exact hR.starts _ _ h0 h1
  · intro k (h0 : k < 10); rw [e _ _ (by omega)]; exact hR.io _ h0
  · intro k (h0 : k < 10); rw [e _ _ (by omega)]; exact hR.inn _ h0
  · intro k (h0 : k < 10); rw [e _ _ (by omega)]; exact hR.ih _ h0
  · intro k (h0 : k < 10); rw [e _ _ (by omega)]; exact hR.ir _ h0
  · intro k (h0 : k < 10); rw [e _ _ (by omega)]; exact hR.iz _ h0
  · intro s (h0 : s < 4); rw [e _ _ (by omega)]; exact hR.sort _ h0
  · intro s (h0 : s < 4); rw [e _ _ (by omega)]; exact hR.size _ h0
  · intro s i (h0 : s < 4) (h1 : i < 40); rw [e _ _ (by omega)]; exact hR.cell _ _ h0 h1
/-! tape0 -/
def q_A.u_tape0 (A : q_A)  : q_A := (A).setN 6 (fun _ _ => 0)
theorem u_tape0_ok {A : q_A}  (hO : q_Ok A)  : q_Ok (A.u_tape0) := by
  have oF := hO.F; have oL := hO.L; have oH := hO.H; have oN := hO.N; have oK := hO.K; have oT := hO.T; have oB := hO.B
  refine ⟨?_, ?_, ?_, ?_, ?_, ?_, ?_, ?_, ?_, ?_, ?_, ?_, ?_, ?_, ?_, ?_, ?_, ?_, ?_, ?_, ?_, ?_, ?_, ?_, ?_, ?_, ?_⟩
  · exact hO.F
  · exact hO.L
  · exact hO.H
  · exact hO.K
  · exact hO.T
  · exact hO.T0
  · exact hO.N
  · exact Nat.zero_le _
  · exact hO.law
  · exact hO.iN
  · exact hO.ilaw
  · exact hO.img
  · exact hO.kind
  · exact hO.pow
  · exact hO.pow1
  · exact hO.room
  · exact hO.sx
  · exact hO.sy
  · exact hO.more
  · exact hO.fed
  · exact hO.lab
  · exact hO.size
  · exact hO.sort
  · exact fun i h0 => absurd h0 (Nat.not_lt_zero _)
  · exact hO.txt
  · exact hO.cok
  · exact hO.txl
theorem u_tape0_w {A : q_A}  {d e2 : Nat → Nat → Int32} (hO : q_Ok A) (hR : q_Rw A d)  (e : ∀ o k, ¬ (o = 33 ∧ k = 1) → e2 o k = d o k) (n1 : e2 33 1 = nI 0) : q_Rw (A.u_tape0) e2 := by
  have oF := hO.F; have oL := hO.L; have oH := hO.H; have oN := hO.N; have oK := hO.K; have oT := hO.T; have oB := hO.B
  refine ⟨?_, ?_, ?_, ?_, ?_, ?_, ?_, ?_, ?_, ?_, ?_, ?_, ?_, ?_, ?_, ?_, ?_, ?_, ?_, ?_, ?_, ?_, ?_, ?_, ?_, ?_, ?_, ?_, ?_, ?_, ?_, ?_, ?_, ?_, ?_, ?_, ?_, ?_, ?_, ?_, ?_, ?_, ?_, ?_, ?_, ?_, ?_, ?_, ?_⟩
  · rw [e _ _ (by omega)]; exact hR.F
  · rw [e _ _ (by omega)]; exact hR.L
  · rw [e _ _ (by omega)]; exact hR.H
  · rw [e _ _ (by omega)]; exact hR.K
  · rw [e _ _ (by omega)]; exact hR.T
  · rw [e _ _ (by omega)]; exact hR.img
  · rw [e _ _ (by omega)]; exact hR.N
  · rw [e _ _ (by omega)]; exact hR.law
  · rw [e _ _ (by omega)]; exact hR.out
  · rw [e _ _ (by omega)]; exact hR.on
  · rw [e _ _ (by omega)]; exact hR.hour
  · rw [e _ _ (by omega)]; exact hR.slips
  · rw [e _ _ (by omega)]; exact hR.iN
  · rw [e _ _ (by omega)]; exact hR.ilaw
  · rw [e _ _ (by omega)]; exact hR.iout
  · rw [e _ _ (by omega)]; exact hR.ion
  · rw [e _ _ (by omega)]; exact hR.ihour
  · rw [e _ _ (by omega)]; exact hR.islips
  · exact n1
  · exact fun i h0 => absurd h0 (Nat.not_lt_zero _)
  · intro i (h0 : i < A.F); rw [e _ _ (by omega)]; exact hR.bears _ h0
  · intro i (h0 : i < A.F); rw [e _ _ (by omega)]; exact hR.times _ h0
  · intro i (h0 : i < 6); rw [e _ _ (by omega)]; exact hR.lends _ h0
  · intro l (h0 : l < A.L); rw [e _ _ (by omega)]; exact hR.kind _ h0
  · intro l (h0 : l < A.L); rw [e _ _ (by omega)]; exact hR.pow _ h0
  · intro l (h0 : l < A.L); rw [e _ _ (by omega)]; exact hR.room _ h0
  · intro l (h0 : l < A.L); rw [e _ _ (by omega)]; exact hR.sx _ h0
  · intro l (h0 : l < A.L); rw [e _ _ (by omega)]; exact hR.sy _ h0
  · intro l (h0 : l < A.L); rw [e _ _ (by omega)]; exact hR.more _ h0
  · intro h l (h0 : h < A.H) (h1 : l < A.L); rw [e _ _ (by omega)]; exact hR.fed _ _ h0 h1
  · intro h f (h0 : h < A.H) (h1 : f < 6); rw [e _ _ (by omega)]; exact hR.feeds _ _ h0 h1
  · intro h f (h0 : A.H ≤ h) (h1 : h < 12) (h2 : f < 6); rw [e _ _ (by omega)]; exact hR.feeds0 _ _ h0 h1 h2
  · intro k l (h0 : k < A.K) (h1 : l < A.L); rw [e _ _ (by omega)]; exact hR.lab _ _ h0 h1
  · intro k (h0 : k < A.K); rw [e _ _ (by omega)]; exact hR.year _ h0
  · intro k (h0 : k < 10); rw [e _ _ (by omega)]; exact hR.ao _ h0
  · intro k (h0 : k < 10); rw [e _ _ (by omega)]; exact hR.an _ h0
  · intro k (h0 : k < 10); rw [e _ _ (by omega)]; exact hR.ah _ h0
  · intro k (h0 : k < 10); rw [e _ _ (by omega)]; exact hR.ar _ h0
  · intro k (h0 : k < 10); rw [e _ _ (by omega)]; exact hR.az _ h0
  · intro k (h0 : k < 10); rw [e _ _ (by omega)]; exact hR.io _ h0
  · intro k (h0 : k < 10); rw [e _ _ (by omega)]; exact hR.inn _ h0
  · intro k (h0 : k < 10); rw [e _ _ (by omega)]; exact hR.ih _ h0
  · intro k (h0 : k < 10); rw [e _ _ (by omega)]; exact hR.ir _ h0
  · intro k (h0 : k < 10); rw [e _ _ (by omega)]; exact hR.iz _ h0
  · intro t p (h0 : t < A.T) (h1 : p < 3); rw [e _ _ (by omega)]; exact hR.ends _ _ h0 h1
  · intro t p i (h0 : t < A.T) (h1 : p < 3) (h2 : i < (A.txt t p).length); rw [e _ _ (by omega)]; exact hR.stp _ _ _ h0 h1 h2
  · intro s (h0 : s < 4); rw [e _ _ (by omega)]; exact hR.sort _ h0
  · intro s (h0 : s < 4); rw [e _ _ (by omega)]; exact hR.size _ h0
  · intro s i (h0 : s < 4) (h1 : i < 40); rw [e _ _ (by omega)]; exact hR.cell _ _ h0 h1
theorem u_tape0_r {A : q_A}  {d e2 : Nat → Nat → Int32} (hO : q_Ok A) (hR : q_Rr A d)  (e : ∀ o k, ¬ (o = 135 ∧ k = 26) → e2 o k = d o k) (n1 : e2 135 26 = nI 0) : q_Rr (A.u_tape0) e2 := by
  have oF := hO.F; have oL := hO.L; have oH := hO.H; have oN := hO.N; have oK := hO.K; have oT := hO.T; have oB := hO.B
  refine ⟨?_, ?_, ?_, ?_, ?_, ?_, ?_, ?_, ?_, ?_, ?_, ?_, ?_, ?_, ?_, ?_, ?_, ?_, ?_, ?_, ?_, ?_, ?_, ?_, ?_, ?_, ?_, ?_, ?_, ?_, ?_, ?_, ?_, ?_, ?_, ?_, ?_, ?_, ?_, ?_, ?_, ?_, ?_, ?_, ?_, ?_⟩
  · rw [e _ _ (by omega)]; exact hR.out
  · rw [e _ _ (by omega)]; exact hR.on
  · rw [e _ _ (by omega)]; exact hR.hour
  · rw [e _ _ (by omega)]; exact hR.slips
  · rw [e _ _ (by omega)]; exact hR.F
  · rw [e _ _ (by omega)]; exact hR.L
  · rw [e _ _ (by omega)]; exact hR.H
  · rw [e _ _ (by omega)]; exact hR.N
  · rw [e _ _ (by omega)]; exact hR.K
  · exact n1
  · rw [e _ _ (by omega)]; exact hR.T
  · rw [e _ _ (by omega)]; exact hR.law
  · rw [e _ _ (by omega)]; exact hR.img
  · rw [e _ _ (by omega)]; exact hR.iout
  · rw [e _ _ (by omega)]; exact hR.ion
  · rw [e _ _ (by omega)]; exact hR.ihour
  · rw [e _ _ (by omega)]; exact hR.islips
  · rw [e _ _ (by omega)]; exact hR.iN
  · rw [e _ _ (by omega)]; exact hR.ilaw
  · intro i (h0 : i < A.F); rw [e _ _ (by omega)]; exact hR.bears _ h0
  · intro i (h0 : i < A.F); rw [e _ _ (by omega)]; exact hR.times _ h0
  · intro l (h0 : l < A.L); rw [e _ _ (by omega)]; exact hR.kind _ h0
  · intro l (h0 : l < A.L); rw [e _ _ (by omega)]; exact hR.pow _ h0
  · intro l (h0 : l < A.L); rw [e _ _ (by omega)]; exact hR.room _ h0
  · intro l (h0 : l < A.L); rw [e _ _ (by omega)]; exact hR.sx _ h0
  · intro l (h0 : l < A.L); rw [e _ _ (by omega)]; exact hR.sy _ h0
  · intro l (h0 : l < A.L); rw [e _ _ (by omega)]; exact hR.more _ h0
  · intro h l (h0 : h < A.H) (h1 : l < A.L); rw [e _ _ (by omega)]; exact hR.fed _ _ h0 h1
  · intro k (h0 : k < 10); rw [e _ _ (by omega)]; exact hR.ao _ h0
  · intro k (h0 : k < 10); rw [e _ _ (by omega)]; exact hR.an _ h0
  · intro k (h0 : k < 10); rw [e _ _ (by omega)]; exact hR.ah _ h0
  · intro k (h0 : k < 10); rw [e _ _ (by omega)]; exact hR.ar _ h0
  · intro k (h0 : k < 10); rw [e _ _ (by omega)]; exact hR.az _ h0
  · intro k (h0 : k < A.K); rw [e _ _ (by omega)]; exact hR.year _ h0
  · intro k l (h0 : k < A.K) (h1 : l < A.L); rw [e _ _ (by omega)]; exact hR.lab _ _ h0 h1
  · exact fun i h0 => absurd h0 (Nat.not_lt_zero _)
  · intro t p i (h0 : t < A.T) (h1 : p < 3) (h2 : i < (A.txt t p).length); rw [e _ _ (by omega)]; exact hR.cod _ _ _ h0 h1 h2
  · intro t p (h0 : t < A.T) (h1 : p < 4); rw [e _ _ (by omega)]; exact hR.starts _ _ h0 h1
  · intro k (h0 : k < 10); rw [e _ _ (by omega)]; exact hR.io _ h0
  · intro k (h0 : k < 10); rw [e _ _ (by omega)]; exact hR.inn _ h0
  · intro k (h0 : k < 10); rw [e _ _ (by omega)]; exact hR.ih _ h0
  · intro k (h0 : k < 10); rw [e _ _ (by omega)]; exact hR.ir _ h0
  · intro k (h0 : k < 10); rw [e _ _ (by omega)]; exact hR.iz _ h0
  · intro s (h0 : s < 4); rw [e _ _ (by omega)]; exact hR.sort _ h0
  · intro s (h0 : s < 4); rw [e _ _ (by omega)]; exact hR.size _ h0
  · intro s i (h0 : s < 4) (h1 : i < 40); rw [e _ _ (by omega)]; exact hR.cell _ _ h0 h1
/-! text -/
def q_A.u_text (A : q_A) (f : Nat → List Nat) : q_A := (((A).setN 4 (fun _ _ => A.T + 1)).setT (fun t => if t = A.T then f else A.txt t))
theorem u_text_ok {A : q_A} {f : Nat → List Nat} (hO : q_Ok A) (hT : A.T < 6) (hd : ∀ p, p < 3 → q_dep 0 (f p) = some 1) (hc : ∀ p c, p < 3 → c ∈ f p → q_cok c) (hl : q_to f 3 ≤ 160) : q_Ok (A.u_text f) := by
  have oF := hO.F; have oL := hO.L; have oH := hO.H; have oN := hO.N; have oK := hO.K; have oT := hO.T; have oB := hO.B
  refine ⟨?_, ?_, ?_, ?_, ?_, ?_, ?_, ?_, ?_, ?_, ?_, ?_, ?_, ?_, ?_, ?_, ?_, ?_, ?_, ?_, ?_, ?_, ?_, ?_, ?_, ?_, ?_⟩
  · exact hO.F
  · exact hO.L
  · exact hO.H
  · exact hO.K
  · exact hT
  · exact Nat.succ_pos _
  · exact hO.N
  · exact hO.B
  · exact Nat.lt_succ_of_lt hO.law
  · exact hO.iN
  · exact Nat.lt_succ_of_lt hO.ilaw
  · exact hO.img
  · exact hO.kind
  · exact hO.pow
  · exact hO.pow1
  · exact hO.room
  · exact hO.sx
  · exact hO.sy
  · exact hO.more
  · exact hO.fed
  · exact hO.lab
  · exact hO.size
  · exact hO.sort
  · exact hO.tape
  · intro t p (h0 : t < A.T + 1) h1
    show q_dep 0 ((if t = A.T then f else A.txt t) p) = some 1
    by_cases e0 : t = A.T
    · rw [if_pos e0]; exact hd p h1
    · rw [if_neg e0]; exact hO.txt t p (by omega) h1
  · intro t p c (h0 : t < A.T + 1) h1
    show c ∈ (if t = A.T then f else A.txt t) p → _
    by_cases e0 : t = A.T
    · rw [if_pos e0]; exact hc p c h1
    · rw [if_neg e0]; exact hO.cok t p c (by omega) h1
  · intro t (h0 : t < A.T + 1)
    show q_to (if t = A.T then f else A.txt t) 3 ≤ 160
    by_cases e0 : t = A.T
    · rw [if_pos e0]; exact hl
    · rw [if_neg e0]; exact hO.txl t (by omega)
theorem u_text_w {A : q_A} {f : Nat → List Nat} {d e2 : Nat → Nat → Int32} (hO : q_Ok A) (hR : q_Rw A d) (hT : A.T < 6) (hd : ∀ p, p < 3 → q_dep 0 (f p) = some 1) (hc : ∀ p c, p < 3 → c ∈ f p → q_cok c) (hl : q_to f 3 ≤ 160) (e : ∀ o k, o ≠ 110 + 3 * A.T ∧ o ≠ 111 + 3 * A.T ∧ ¬ (o = 0 ∧ k = 17) → e2 o k = d o k) (n1 : ∀ p, p < 3 → e2 (111 + 3 * A.T) p = nI (q_to f (p + 1))) (n2 : ∀ p i, p < 3 → i < (f p).length → e2 (110 + 3 * A.T) (q_to f p + i) = q_stp ((f p).getD i 0)) (n3 : e2 0 17 = nI (A.T + 1)) : q_Rw (A.u_text f) e2 := by
  have oF := hO.F; have oL := hO.L; have oH := hO.H; have oN := hO.N; have oK := hO.K; have oT := hO.T; have oB := hO.B
  refine ⟨?_, ?_, ?_, ?_, ?_, ?_, ?_, ?_, ?_, ?_, ?_, ?_, ?_, ?_, ?_, ?_, ?_, ?_, ?_, ?_, ?_, ?_, ?_, ?_, ?_, ?_, ?_, ?_, ?_, ?_, ?_, ?_, ?_, ?_, ?_, ?_, ?_, ?_, ?_, ?_, ?_, ?_, ?_, ?_, ?_, ?_, ?_, ?_, ?_⟩
  · rw [e _ _ (by omega)]; exact hR.F
  · rw [e _ _ (by omega)]; exact hR.L
  · rw [e _ _ (by omega)]; exact hR.H
  · rw [e _ _ (by omega)]; exact hR.K
  · exact n3
  · rw [e _ _ (by omega)]; exact hR.img
  · rw [e _ _ (by omega)]; exact hR.N
  · rw [e _ _ (by omega)]; exact hR.law
  · rw [e _ _ (by omega)]; exact hR.out
  · rw [e _ _ (by omega)]; exact hR.on
  · rw [e _ _ (by omega)]; exact hR.hour
  · rw [e _ _ (by omega)]; exact hR.slips
  · rw [e _ _ (by omega)]; exact hR.iN
  · rw [e _ _ (by omega)]; exact hR.ilaw
  · rw [e _ _ (by omega)]; exact hR.iout
  · rw [e _ _ (by omega)]; exact hR.ion
  · rw [e _ _ (by omega)]; exact hR.ihour
  · rw [e _ _ (by omega)]; exact hR.islips
  · rw [e _ _ (by omega)]; exact hR.B
  · intro i (h0 : i < A.B); rw [e _ _ (by omega)]; exact hR.tape _ h0
  · intro i (h0 : i < A.F); rw [e _ _ (by omega)]; exact hR.bears _ h0
  · intro i (h0 : i < A.F); rw [e _ _ (by omega)]; exact hR.times _ h0
  · intro i (h0 : i < 6); rw [e _ _ (by omega)]; exact hR.lends _ h0
  · intro l (h0 : l < A.L); rw [e _ _ (by omega)]; exact hR.kind _ h0
  · intro l (h0 : l < A.L); rw [e _ _ (by omega)]; exact hR.pow _ h0
  · intro l (h0 : l < A.L); rw [e _ _ (by omega)]; exact hR.room _ h0
  · intro l (h0 : l < A.L); rw [e _ _ (by omega)]; exact hR.sx _ h0
  · intro l (h0 : l < A.L); rw [e _ _ (by omega)]; exact hR.sy _ h0
  · intro l (h0 : l < A.L); rw [e _ _ (by omega)]; exact hR.more _ h0
  · intro h l (h0 : h < A.H) (h1 : l < A.L); rw [e _ _ (by omega)]; exact hR.fed _ _ h0 h1
  · intro h f (h0 : h < A.H) (h1 : f < 6); rw [e _ _ (by omega)]; exact hR.feeds _ _ h0 h1
  · intro h f (h0 : A.H ≤ h) (h1 : h < 12) (h2 : f < 6); rw [e _ _ (by omega)]; exact hR.feeds0 _ _ h0 h1 h2
  · intro k l (h0 : k < A.K) (h1 : l < A.L); rw [e _ _ (by omega)]; exact hR.lab _ _ h0 h1
  · intro k (h0 : k < A.K); rw [e _ _ (by omega)]; exact hR.year _ h0
  · intro k (h0 : k < 10); rw [e _ _ (by omega)]; exact hR.ao _ h0
  · intro k (h0 : k < 10); rw [e _ _ (by omega)]; exact hR.an _ h0
  · intro k (h0 : k < 10); rw [e _ _ (by omega)]; exact hR.ah _ h0
  · intro k (h0 : k < 10); rw [e _ _ (by omega)]; exact hR.ar _ h0
  · intro k (h0 : k < 10); rw [e _ _ (by omega)]; exact hR.az _ h0
  · intro k (h0 : k < 10); rw [e _ _ (by omega)]; exact hR.io _ h0
  · intro k (h0 : k < 10); rw [e _ _ (by omega)]; exact hR.inn _ h0
  · intro k (h0 : k < 10); rw [e _ _ (by omega)]; exact hR.ih _ h0
  · intro k (h0 : k < 10); rw [e _ _ (by omega)]; exact hR.ir _ h0
  · intro k (h0 : k < 10); rw [e _ _ (by omega)]; exact hR.iz _ h0
  · intro t p (h0 : t < A.T + 1) h1
    show _ = nI (q_to (if t = A.T then f else A.txt t) (p + 1))
    by_cases e0 : t = A.T
    · subst e0
      rw [n1 p h1, if_pos rfl]
    · rw [e _ _ (by omega), hR.ends t p (by omega) h1, if_neg e0]
  · intro t p i (h0 : t < A.T + 1) h1
    show i < ((if t = A.T then f else A.txt t) p).length → e2 (110 + 3 * t) (q_to (if t = A.T then f else A.txt t) p + i) = q_stp (((if t = A.T then f else A.txt t) p).getD i 0)
    by_cases e0 : t = A.T
    · subst e0
      rw [if_pos rfl]
      exact n2 p i h1
    · rw [if_neg e0]
      intro h2
      rw [e _ _ (by omega), hR.stp t p i (by omega) h1 h2]
  · intro s (h0 : s < 4); rw [e _ _ (by omega)]; exact hR.sort _ h0
  · intro s (h0 : s < 4); rw [e _ _ (by omega)]; exact hR.size _ h0
  · intro s i (h0 : s < 4) (h1 : i < 40); rw [e _ _ (by omega)]; exact hR.cell _ _ h0 h1
theorem u_text_r {A : q_A} {f : Nat → List Nat} {d e2 : Nat → Nat → Int32} (hO : q_Ok A) (hR : q_Rr A d) (hT : A.T < 6) (hd : ∀ p, p < 3 → q_dep 0 (f p) = some 1) (hc : ∀ p c, p < 3 → c ∈ f p → q_cok c) (hl : q_to f 3 ≤ 160) (e : ∀ o k, ¬ (o = 153 ∧ 200 * A.T ≤ k ∧ k < 200 * A.T + 200) ∧ ¬ (o = 154 ∧ 4 * A.T ≤ k ∧ k < 4 * A.T + 4) ∧ ¬ (o = 135 ∧ k = 29) → e2 o k = d o k) (n1 : ∀ p, p < 4 → e2 154 (4 * A.T + p) = nI (q_to f p)) (n2 : ∀ p i, p < 3 → i < (f p).length → e2 153 (200 * A.T + (q_to f p + i)) = nI ((f p).getD i 0)) (n3 : e2 135 29 = nI (A.T + 1)) : q_Rr (A.u_text f) e2 := by
  have oF := hO.F; have oL := hO.L; have oH := hO.H; have oN := hO.N; have oK := hO.K; have oT := hO.T; have oB := hO.B
  refine ⟨?_, ?_, ?_, ?_, ?_, ?_, ?_, ?_, ?_, ?_, ?_, ?_, ?_, ?_, ?_, ?_, ?_, ?_, ?_, ?_, ?_, ?_, ?_, ?_, ?_, ?_, ?_, ?_, ?_, ?_, ?_, ?_, ?_, ?_, ?_, ?_, ?_, ?_, ?_, ?_, ?_, ?_, ?_, ?_, ?_, ?_⟩
  · rw [e _ _ (by omega)]; exact hR.out
  · rw [e _ _ (by omega)]; exact hR.on
  · rw [e _ _ (by omega)]; exact hR.hour
  · rw [e _ _ (by omega)]; exact hR.slips
  · rw [e _ _ (by omega)]; exact hR.F
  · rw [e _ _ (by omega)]; exact hR.L
  · rw [e _ _ (by omega)]; exact hR.H
  · rw [e _ _ (by omega)]; exact hR.N
  · rw [e _ _ (by omega)]; exact hR.K
  · rw [e _ _ (by omega)]; exact hR.B
  · exact n3
  · rw [e _ _ (by omega)]; exact hR.law
  · rw [e _ _ (by omega)]; exact hR.img
  · rw [e _ _ (by omega)]; exact hR.iout
  · rw [e _ _ (by omega)]; exact hR.ion
  · rw [e _ _ (by omega)]; exact hR.ihour
  · rw [e _ _ (by omega)]; exact hR.islips
  · rw [e _ _ (by omega)]; exact hR.iN
  · rw [e _ _ (by omega)]; exact hR.ilaw
  · intro i (h0 : i < A.F); rw [e _ _ (by omega)]; exact hR.bears _ h0
  · intro i (h0 : i < A.F); rw [e _ _ (by omega)]; exact hR.times _ h0
  · intro l (h0 : l < A.L); rw [e _ _ (by omega)]; exact hR.kind _ h0
  · intro l (h0 : l < A.L); rw [e _ _ (by omega)]; exact hR.pow _ h0
  · intro l (h0 : l < A.L); rw [e _ _ (by omega)]; exact hR.room _ h0
  · intro l (h0 : l < A.L); rw [e _ _ (by omega)]; exact hR.sx _ h0
  · intro l (h0 : l < A.L); rw [e _ _ (by omega)]; exact hR.sy _ h0
  · intro l (h0 : l < A.L); rw [e _ _ (by omega)]; exact hR.more _ h0
  · intro h l (h0 : h < A.H) (h1 : l < A.L); rw [e _ _ (by omega)]; exact hR.fed _ _ h0 h1
  · intro k (h0 : k < 10); rw [e _ _ (by omega)]; exact hR.ao _ h0
  · intro k (h0 : k < 10); rw [e _ _ (by omega)]; exact hR.an _ h0
  · intro k (h0 : k < 10); rw [e _ _ (by omega)]; exact hR.ah _ h0
  · intro k (h0 : k < 10); rw [e _ _ (by omega)]; exact hR.ar _ h0
  · intro k (h0 : k < 10); rw [e _ _ (by omega)]; exact hR.az _ h0
  · intro k (h0 : k < A.K); rw [e _ _ (by omega)]; exact hR.year _ h0
  · intro k l (h0 : k < A.K) (h1 : l < A.L); rw [e _ _ (by omega)]; exact hR.lab _ _ h0 h1
  · intro i (h0 : i < A.B); rw [e _ _ (by omega)]; exact hR.tape _ h0
  · intro t p i (h0 : t < A.T + 1) h1
    show i < ((if t = A.T then f else A.txt t) p).length → e2 153 (200 * t + (q_to (if t = A.T then f else A.txt t) p + i)) = nI (((if t = A.T then f else A.txt t) p).getD i 0)
    by_cases e0 : t = A.T
    · subst e0
      rw [if_pos rfl]
      exact n2 p i h1
    · rw [if_neg e0]
      intro h2
      have z1 := q_to_3 (A.txt t) h1
      have z2 := hO.txl t (by omega)
      rw [e _ _ (by omega), hR.cod t p i (by omega) h1 h2]
  · intro t p (h0 : t < A.T + 1) h1
    show _ = nI (q_to (if t = A.T then f else A.txt t) p)
    by_cases e0 : t = A.T
    · subst e0
      rw [n1 p h1, if_pos rfl]
    · rw [e _ _ (by omega), hR.starts t p (by omega) h1, if_neg e0]
  · intro k (h0 : k < 10); rw [e _ _ (by omega)]; exact hR.io _ h0
  · intro k (h0 : k < 10); rw [e _ _ (by omega)]; exact hR.inn _ h0
  · intro k (h0 : k < 10); rw [e _ _ (by omega)]; exact hR.ih _ h0
  · intro k (h0 : k < 10); rw [e _ _ (by omega)]; exact hR.ir _ h0
  · intro k (h0 : k < 10); rw [e _ _ (by omega)]; exact hR.iz _ h0
  · intro s (h0 : s < 4); rw [e _ _ (by omega)]; exact hR.sort _ h0
  · intro s (h0 : s < 4); rw [e _ _ (by omega)]; exact hR.size _ h0
  · intro s i (h0 : s < 4) (h1 : i < 40); rw [e _ _ (by omega)]; exact hR.cell _ _ h0 h1
