/-! ONE LAMP OF ANOTHER POWER (written by wip/gen/upd2.py) -/
/-! pow -/
def q_A.u_pow (A : q_A) (l v : Nat) : q_A := (A).setN 11 (fun i _ => if i = l then v else A.pow i)
theorem u_pow_ok {A : q_A} {l v : Nat} (hO : q_Ok A) (v1 : 1 ≤ v) (v2 : v ≤ 99) : q_Ok (A.u_pow l v) := by
  have oF := hO.F; have oL := hO.L; have oH := hO.H; have oN := hO.N; have oK := hO.K; have oT := hO.T; have oB := hO.B
  refine ⟨?_, ?_, ?_, ?_, ?_, ?_, ?_, ?_, ?_, ?_, ?_, ?_, ?_, ?_, ?_, ?_, ?_, ?_, ?_, ?_, ?_, ?_, ?_, ?_, ?_, ?_, ?_⟩
  · exact hO.F
  · exact hO.L
  · exact hO.H
  · exact hO.K
  · exact hO.T
  · exact hO.T0
  · exact hO.N
  · exact hO.B
  · exact hO.law
  · exact hO.iN
  · exact hO.ilaw
  · exact hO.img
  · exact hO.kind
  · intro i h0
    show (if i = l then v else A.pow i) ≤ 99
    by_cases e0 : i = l
    · rw [if_pos e0]; exact v2
    · rw [if_neg e0]; exact hO.pow i h0
  · intro i h0
    show 1 ≤ (if i = l then v else A.pow i)
    by_cases e0 : i = l
    · rw [if_pos e0]; exact v1
    · rw [if_neg e0]; exact hO.pow1 i h0
  · exact hO.room
  · exact hO.sx
  · exact hO.sy
  · exact hO.more
  · exact hO.fed
  · exact hO.lab
  · exact hO.size
  · exact hO.sort
  · exact hO.tape
  · exact hO.txt
  · exact hO.cok
  · exact hO.txl
theorem u_pow_w {A : q_A} {l v : Nat} {d e2 : Nat → Nat → Int32} (hO : q_Ok A) (hR : q_Rw A d) (v1 : 1 ≤ v) (v2 : v ≤ 99) (e : ∀ o k, ¬ (o = 51 + l ∧ k = 1) → e2 o k = d o k) (n1 : e2 (51 + l) 1 = nI v) (hl : l < 10) : q_Rw (A.u_pow l v) e2 := by
  have oF := hO.F; have oL := hO.L; have oH := hO.H; have oN := hO.N; have oK := hO.K; have oT := hO.T; have oB := hO.B
  refine ⟨?_, ?_, ?_, ?_, ?_, ?_, ?_, ?_, ?_, ?_, ?_, ?_, ?_, ?_, ?_, ?_, ?_, ?_, ?_, ?_, ?_, ?_, ?_, ?_, ?_, ?_, ?_, ?_, ?_, ?_, ?_, ?_, ?_, ?_, ?_, ?_, ?_, ?_, ?_, ?_, ?_, ?_, ?_, ?_, ?_, ?_, ?_, ?_, ?_⟩
  · rw [e _ _ (by omega)]; exact hR.F
  · rw [e _ _ (by omega)]; exact hR.L
  · rw [e _ _ (by omega)]; exact hR.H
  · rw [e _ _ (by omega)]; exact hR.K
  · rw [e _ _ (by omega)]; exact hR.T
  · rw [e _ _ (by omega)]; exact hR.img
  · rw [e _ _ (by omega)]; exact hR.N
  · rw [e _ _ (by omega)]; exact hR.law
  · rw [e _ _ (by omega)]; exact hR.out
  · rw [e _ _ (by omega)]; exact hR.on
  · rw [e _ _ (by omega)]; exact hR.hour
  · rw [e _ _ (by omega)]; exact hR.slips
  · rw [e _ _ (by omega)]; exact hR.iN
  · rw [e _ _ (by omega)]; exact hR.ilaw
  · rw [e _ _ (by omega)]; exact hR.iout
  · rw [e _ _ (by omega)]; exact hR.ion
  · rw [e _ _ (by omega)]; exact hR.ihour
  · rw [e _ _ (by omega)]; exact hR.islips
  · rw [e _ _ (by omega)]; exact hR.B
  · intro i (h0 : i < A.B); rw [e _ _ (by omega)]; exact hR.tape _ h0
  · intro i (h0 : i < A.F); rw [e _ _ (by omega)]; exact hR.bears _ h0
  · intro i (h0 : i < A.F); rw [e _ _ (by omega)]; exact hR.times _ h0
  · intro i (h0 : i < 6); rw [e _ _ (by omega)]; exact hR.lends _ h0
  · intro l (h0 : l < A.L); rw [e _ _ (by omega)]; exact hR.kind _ h0
  · intro i (h0 : i < A.L)
    by_cases e0 : i = l
    · subst e0
      rw [n1]
      exact congrArg nI (if_pos rfl).symm
    · rw [e _ _ (by omega), hR.pow i h0]
      exact congrArg nI (if_neg e0).symm
  · intro l (h0 : l < A.L); rw [e _ _ (by omega)]; exact hR.room _ h0
  · intro l (h0 : l < A.L); rw [e _ _ (by omega)]; exact hR.sx _ h0
  · intro l (h0 : l < A.L); rw [e _ _ (by omega)]; exact hR.sy _ h0
  · intro l (h0 : l < A.L); rw [e _ _ (by omega)]; exact hR.more _ h0
  · intro h l (h0 : h < A.H) (h1 : l < A.L); rw [e _ _ (by omega)]; exact hR.fed _ _ h0 h1
  · intro h f (h0 : h < A.H) (h1 : f < 6); rw [e _ _ (by omega)]; exact hR.feeds _ _ h0 h1
  · intro h f (h0 : A.H ≤ h) (h1 : h < 12) (h2 : f < 6); rw [e _ _ (by omega)]; exact hR.feeds0 _ _ h0 h1 h2
  · intro k l (h0 : k < A.K) (h1 : l < A.L); rw [e _ _ (by omega)]; exact hR.lab _ _ h0 h1
  · intro k (h0 : k < A.K); rw [e _ _ (by omega)]; exact hR.year _ h0
  · intro k (h0 : k < 10); rw [e _ _ (by omega)]; exact hR.ao _ h0
  · intro k (h0 : k < 10); rw [e _ _ (by omega)]; exact hR.an _ h0
  · intro k (h0 : k < 10); rw [e _ _ (by omega)]; exact hR.ah _ h0
  · intro k (h0 : k < 10); rw [e _ _ (by omega)]; exact hR.ar _ h0
  · intro k (h0 : k < 10); rw [e _ _ (by omega)]; exact hR.az _ h0
  · intro k (h0 : k < 10); rw [e _ _ (by omega)]; exact hR.io _ h0
  · intro k (h0 : k < 10); rw [e _ _ (by omega)]; exact hR.inn _ h0
  · intro k (h0 : k < 10); rw [e _ _ (by omega)]; exact hR.ih _ h0
  · intro k (h0 : k < 10); rw [e _ _ (by omega)]; exact hR.ir _ h0
  · intro k (h0 : k < 10); rw [e _ _ (by omega)]; exact hR.iz _ h0
  · intro t p (h0 : t < A.T) (h1 : p < 3); rw [e _ _ (by omega)]; exact hR.ends _ _ h0 h1
  · intro t p i (h0 : t < A.T) (h1 : p < 3) (h2 : i < (A.txt t p).length); rw [e _ _ (by omega)]; exact hR.stp _ _ _ h0 h1 h2
  · intro s (h0 : s < 4); rw [e _ _ (by omega)]; exact hR.sort _ h0
  · intro s (h0 : s < 4); rw [e _ _ (by omega)]; exact hR.size _ h0
  · intro s i (h0 : s < 4) (h1 : i < 40); rw [e _ _ (by omega)]; exact hR.cell _ _ h0 h1
theorem u_pow_r {A : q_A} {l v : Nat} {d e2 : Nat → Nat → Int32} (hO : q_Ok A) (hR : q_Rr A d) (v1 : 1 ≤ v) (v2 : v ≤ 99) (e : ∀ o k, ¬ (o = 139 ∧ k = l) → e2 o k = d o k) (n1 : e2 139 l = nI v) : q_Rr (A.u_pow l v) e2 := by
  have oF := hO.F; have oL := hO.L; have oH := hO.H; have oN := hO.N; have oK := hO.K; have oT := hO.T; have oB := hO.B
  refine ⟨?_, ?_, ?_, ?_, ?_, ?_, ?_, ?_, ?_, ?_, ?_, ?_, ?_, ?_, ?_, ?_, ?_, ?_, ?_, ?_, ?_, ?_, ?_, ?_, ?_, ?_, ?_, ?_, ?_, ?_, ?_, ?_, ?_, ?_, ?_, ?_, ?_, ?_, ?_, ?_, ?_, ?_, ?_, ?_, ?_, ?_⟩
  · rw [e _ _ (by omega)]; exact hR.out
  · rw [e _ _ (by omega)]; exact hR.on
  · rw [e _ _ (by omega)]; exact hR.hour
  · rw [e _ _ (by omega)]; exact hR.slips
  · rw [e _ _ (by omega)]; exact hR.F
  · rw [e _ _ (by omega)]; exact hR.L
  · rw [e _ _ (by omega)]; exact hR.H
  · rw [e _ _ (by omega)]; exact hR.N
  · rw [e _ _ (by omega)]; exact hR.K
  · rw [e _ _ (by omega)]; exact hR.B
  · rw [e _ _ (by omega)]; exact hR.T
  · rw [e _ _ (by omega)]; exact hR.law
  · rw [e _ _ (by omega)]; exact hR.img
  · rw [e _ _ (by omega)]; exact hR.iout
  · rw [e _ _ (by omega)]; exact hR.ion
  · rw [e _ _ (by omega)]; exact hR.ihour
  · rw [e _ _ (by omega)]; exact hR.islips
  · rw [e _ _ (by omega)]; exact hR.iN
  · rw [e _ _ (by omega)]; exact hR.ilaw
  · intro i (h0 : i < A.F); rw [e _ _ (by omega)]; exact hR.bears _ h0
  · intro i (h0 : i < A.F); rw [e _ _ (by omega)]; exact hR.times _ h0
  · intro l (h0 : l < A.L); rw [e _ _ (by omega)]; exact hR.kind _ h0
  · intro i (h0 : i < A.L)
    by_cases e0 : i = l
    · subst e0
      rw [n1]
      exact congrArg nI (if_pos rfl).symm
    · rw [e _ _ (by omega), hR.pow i h0]
      exact congrArg nI (if_neg e0).symm
  · intro l (h0 : l < A.L); rw [e _ _ (by omega)]; exact hR.room _ h0
  · intro l (h0 : l < A.L); rw [e _ _ (by omega)]; exact hR.sx _ h0
  · intro l (h0 : l < A.L); rw [e _ _ (by omega)]; exact hR.sy _ h0
  · intro l (h0 : l < A.L); rw [e _ _ (by omega)]; exact hR.more _ h0
  · intro h l (h0 : h < A.H) (h1 : l < A.L); rw [e _ _ (by omega)]; exact hR.fed _ _ h0 h1
  · intro k (h0 : k < 10); rw [e _ _ (by omega)]; exact hR.ao _ h0
  · intro k (h0 : k < 10); rw [e _ _ (by omega)]; exact hR.an _ h0
  · intro k (h0 : k < 10); rw [e _ _ (by omega)]; exact hR.ah _ h0
  · intro k (h0 : k < 10); rw [e _ _ (by omega)]; exact hR.ar _ h0
  · intro k (h0 : k < 10); rw [e _ _ (by omega)]; exact hR.az _ h0
  · intro k (h0 : k < A.K); rw [e _ _ (by omega)]; exact hR.year _ h0
  · intro k l (h0 : k < A.K) (h1 : l < A.L); rw [e _ _ (by omega)]; exact hR.lab _ _ h0 h1
  · intro i (h0 : i < A.B); rw [e _ _ (by omega)]; exact hR.tape _ h0
  · intro t p i (h0 : t < A.T) (h1 : p < 3) (h2 : i < (A.txt t p).length); rw [e _ _ (by omega)]; exact hR.cod _ _ _ h0 h1 h2
  · intro t p (h0 : t < A.T) (h1 : p < 4); rw [e _ _ (by omega)]; exact hR.starts _ _ h0 h1
  · intro k (h0 : k < 10); rw [e _ _ (by omega)]; exact hR.io _ h0
  · intro k (h0 : k < 10); rw [e _ _ (by omega)]; exact hR.inn _ h0
  · intro k (h0 : k < 10); rw [e _ _ (by omega)]; exact hR.ih _ h0
  · intro k (h0 : k < 10); rw [e _ _ (by omega)]; exact hR.ir _ h0
  · intro k (h0 : k < 10); rw [e _ _ (by omega)]; exact hR.iz _ h0
  · intro s (h0 : s < 4); rw [e _ _ (by omega)]; exact hR.sort _ h0
  · intro s (h0 : s < 4); rw [e _ _ (by omega)]; exact hR.size _ h0
  · intro s i (h0 : s < 4) (h1 : i < 40); rw [e _ _ (by omega)]; exact hR.cell _ _ h0 h1
