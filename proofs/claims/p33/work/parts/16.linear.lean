/-! LINEAR ALGEBRA over the field: functionals on six checks; what is left of a column behind a basis -/
def B6 (v : Nat → Nat) : Prop := ∀ i, i < 6 → v i < 16
def ev (l v : Nat → Nat) : Nat := ((gm (l 0) (v 0) ^^^ gm (l 1) (v 1)) ^^^ (gm (l 2) (v 2) ^^^ gm (l 3) (v 3))) ^^^ (gm (l 4) (v 4) ^^^ gm (l 5) (v 5))
theorem ev_lt {l v : Nat → Nat} (hl : B6 l) (hv : B6 v) : ev l v < 16 := by
  unfold ev
  have h : ∀ i, i < 6 → gm (l i) (v i) < 16 := fun i hi => gm_lt (hl i hi) (hv i hi)
  exact xor_lt (xor_lt (xor_lt (h 0 (by decide)) (h 1 (by decide))) (xor_lt (h 2 (by decide)) (h 3 (by decide)))) (xor_lt (h 4 (by decide)) (h 5 (by decide)))
theorem ev_congr {l l' v v' : Nat → Nat} (h1 : ∀ i, i < 6 → l i = l' i) (h2 : ∀ i, i < 6 → v i = v' i) : ev l v = ev l' v' := by
  unfold ev
  rw [h1 0 (by decide), h1 1 (by decide), h1 2 (by decide), h1 3 (by decide), h1 4 (by decide), h1 5 (by decide), h2 0 (by decide), h2 1 (by decide), h2 2 (by decide), h2 3 (by decide), h2 4 (by decide), h2 5 (by decide)]
theorem xor4 (a b c d : Nat) : (a ^^^ b) ^^^ (c ^^^ d) = (a ^^^ c) ^^^ (b ^^^ d) := by
  rw [Nat.xor_assoc, Nat.xor_assoc, ← Nat.xor_assoc b c d, Nat.xor_comm b c, Nat.xor_assoc c b d]
theorem ev_xor_r {l u v : Nat → Nat} (hl : B6 l) (hu : B6 u) (hv : B6 v) : ev l (fun i => u i ^^^ v i) = ev l u ^^^ ev l v := by
  unfold ev
  have h : ∀ i, i < 6 → gm (l i) (u i ^^^ v i) = gm (l i) (u i) ^^^ gm (l i) (v i) := fun i hi => gm_xor (hl i hi) (hu i hi) (hv i hi)
  rw [h 0 (by decide), h 1 (by decide), h 2 (by decide), h 3 (by decide), h 4 (by decide), h 5 (by decide)]
  rw [xor4 (gm (l 0) (u 0)), xor4 (gm (l 2) (u 2)), xor4 (gm (l 4) (u 4)), xor4 (gm (l 0) (u 0) ^^^ gm (l 1) (u 1)), xor4 ((gm (l 0) (u 0) ^^^ gm (l 1) (u 1)) ^^^ (gm (l 2) (u 2) ^^^ gm (l 3) (u 3)))]
theorem ev_xor_l {l m v : Nat → Nat} (hl : B6 l) (hm : B6 m) (hv : B6 v) : ev (fun i => l i ^^^ m i) v = ev l v ^^^ ev m v := by
  unfold ev
  have h : ∀ i, i < 6 → gm (l i ^^^ m i) (v i) = gm (l i) (v i) ^^^ gm (m i) (v i) := fun i hi => xor_gm (hl i hi) (hm i hi) (hv i hi)
  rw [h 0 (by decide), h 1 (by decide), h 2 (by decide), h 3 (by decide), h 4 (by decide), h 5 (by decide)]
  rw [xor4 (gm (l 0) (v 0)), xor4 (gm (l 2) (v 2)), xor4 (gm (l 4) (v 4)), xor4 (gm (l 0) (v 0) ^^^ gm (l 1) (v 1)), xor4 ((gm (l 0) (v 0) ^^^ gm (l 1) (v 1)) ^^^ (gm (l 2) (v 2) ^^^ gm (l 3) (v 3)))]
theorem ev_gm_r {l v : Nat → Nat} {x : Nat} (hl : B6 l) (hv : B6 v) (hx : x < 16) : ev l (fun i => gm (v i) x) = gm (ev l v) x := by
  unfold ev
  have h : ∀ i, i < 6 → gm (l i) (gm (v i) x) = gm (gm (l i) (v i)) x := fun i hi => (gm_assoc (hl i hi) (hv i hi) hx).symm
  have hb : ∀ i, i < 6 → gm (l i) (v i) < 16 := fun i hi => gm_lt (hl i hi) (hv i hi)
  have b0 := hb 0 (by decide)
  have b1 := hb 1 (by decide)
  have b2 := hb 2 (by decide)
  have b3 := hb 3 (by decide)
  have b4 := hb 4 (by decide)
  have b5 := hb 5 (by decide)
  rw [h 0 (by decide), h 1 (by decide), h 2 (by decide), h 3 (by decide), h 4 (by decide), h 5 (by decide)]
  rw [xor_gm (xor_lt (xor_lt b0 b1) (xor_lt b2 b3)) (xor_lt b4 b5) hx, xor_gm (xor_lt b0 b1) (xor_lt b2 b3) hx, xor_gm b0 b1 hx, xor_gm b2 b3 hx, xor_gm b4 b5 hx]
theorem ev_comm {l v : Nat → Nat} (hl : B6 l) (hv : B6 v) : ev l v = ev v l := by
  unfold ev
  have h : ∀ i, i < 6 → gm (l i) (v i) = gm (v i) (l i) := fun i hi => gm_comm (hl i hi) (hv i hi)
  rw [h 0 (by decide), h 1 (by decide), h 2 (by decide), h 3 (by decide), h 4 (by decide), h 5 (by decide)]
theorem B6.gm {v : Nat → Nat} {x : Nat} (hv : B6 v) (hx : x < 16) : B6 (fun i => gm (v i) x) := fun i hi => gm_lt (hv i hi) hx
theorem B6.xor {u v : Nat → Nat} (hu : B6 u) (hv : B6 v) : B6 (fun i => u i ^^^ v i) := fun i hi => xor_lt (hu i hi) (hv i hi)
theorem B6.sgl {x k : Nat} (hx : x < 16) : B6 (sgl x k) := fun i _ => sgl_lt hx i
theorem ev_gm_l {l v : Nat → Nat} {x : Nat} (hl : B6 l) (hv : B6 v) (hx : x < 16) : ev (fun i => gm (l i) x) v = gm (ev l v) x := by
  rw [ev_comm (hl.gm hx) hv, ev_gm_r hv hl hx, ev_comm hv hl]
theorem ev_sgl {v : Nat → Nat} (hv : B6 v) {k : Nat} (hk : k < 6) : ev (sgl 1 k) v = v k := by
  have z : ∀ i, i < 6 → gm 0 (v i) = 0 := fun i hi => gm_0l (hv i hi)
  have o : ∀ i, i < 6 → gm 1 (v i) = v i := fun i hi => gm_1l (hv i hi)
  unfold ev
  rcases (show k = 0 ∨ k = 1 ∨ k = 2 ∨ k = 3 ∨ k = 4 ∨ k = 5 by omega) with rfl | rfl | rfl | rfl | rfl | rfl <;>
    simp [sgl, z 0 (by decide), z 1 (by decide), z 2 (by decide), z 3 (by decide), z 4 (by decide), z 5 (by decide), o 0 (by decide), o 1 (by decide), o 2 (by decide), o 3 (by decide), o 4 (by decide), o 5 (by decide)]
theorem ev_0 {l v : Nat → Nat} (hl : B6 l) (hv : ∀ i, i < 6 → v i = 0) : ev l v = 0 := by
  rw [ev_congr (l' := l) (v' := fun _ => 0) (fun _ _ => rfl) hv]
  unfold ev
  have h : ∀ i, i < 6 → gm (l i) 0 = 0 := fun i hi => gm_0 (hl i hi)
  rw [h 0 (by decide), h 1 (by decide), h 2 (by decide), h 3 (by decide), h 4 (by decide), h 5 (by decide)]
  rfl
/-- a number's bit -/
abbrev bit (M c : Nat) : Prop := M / 2 ^ c % 2 = 1
def xsum (f : Nat → Nat) (M : Nat) : Nat → Nat
  | 0 => 0
  | j + 1 => xsum f M j ^^^ (if M / 2 ^ j % 2 = 1 then f j else 0)
theorem ev_vsum {l : Nat → Nat} {C : Nat → Nat → Nat} {V : Nat → Nat} {M n : Nat} (hl : B6 l) (hC : ∀ c, c < n → B6 (C c)) (hV : ∀ c, c < n → bit M c → V c < 16) : ∀ j, j ≤ n → ev l (vsum C V M j) = xsum (fun c => gm (ev l (C c)) (V c)) M j
  | 0, _ => ev_0 hl (fun _ _ => rfl)
  | j + 1, hj => by
    have ih := ev_vsum hl hC hV j (by omega)
    have hb := vsum_lt hC hV j (by omega)
    show ev l (fun i => vsum C V M j i ^^^ (if M / 2 ^ j % 2 = 1 then gm (C j i) (V j) else 0)) = xsum _ M j ^^^ (if M / 2 ^ j % 2 = 1 then gm (ev l (C j)) (V j) else 0)
    by_cases q : M / 2 ^ j % 2 = 1
    · rw [if_pos q, ← ih, ← ev_gm_r hl (hC j (by omega)) (hV j (by omega) q), ← ev_xor_r hl hb ((hC j (by omega)).gm (hV j (by omega) q))]
      exact ev_congr (fun _ _ => rfl) (fun i _ => by rw [if_pos q])
    · rw [if_neg q, Nat.xor_zero, ← ih]
      exact ev_congr (fun _ _ => rfl) (fun i _ => by rw [if_neg q, Nat.xor_zero])
/-- what is left of v behind the first p of the basis U with the leads K -/
def rst (U : Nat → Nat → Nat) (K : Nat → Nat) : Nat → (Nat → Nat) → Nat → Nat
  | 0, v => v
  | p + 1, v => fun i => rst U K p v i ^^^ gm (U p i) (rst U K p v (K p))
/-- the functional that reads the place i of what is left -/
def lam (U : Nat → Nat → Nat) (K : Nat → Nat) : Nat → Nat → Nat → Nat
  | 0, i => sgl 1 i
  | p + 1, i => fun k => lam U K p i k ^^^ gm (lam U K p (K p) k) (U p i)
def BasOK (U : Nat → Nat → Nat) (K : Nat → Nat) (r : Nat) : Prop := ∀ p, p < r → B6 (U p) ∧ K p < 6
theorem rst_lt {U : Nat → Nat → Nat} {K : Nat → Nat} {r : Nat} (h : BasOK U K r) : ∀ p, p ≤ r → ∀ {v : Nat → Nat}, B6 v → B6 (rst U K p v)
  | 0, _, _, hv => hv
  | p + 1, hp, _, hv => (rst_lt h p (by omega) hv).xor ((h p (by omega)).1.gm (rst_lt h p (by omega) hv _ (h p (by omega)).2))
theorem lam_lt {U : Nat → Nat → Nat} {K : Nat → Nat} {r : Nat} (h : BasOK U K r) : ∀ p, p ≤ r → ∀ i, i < 6 → B6 (lam U K p i)
  | 0, _, i, _ => B6.sgl (by decide)
  | p + 1, hp, i, hi => (lam_lt h p (by omega) i hi).xor ((lam_lt h p (by omega) _ (h p (by omega)).2).gm ((h p (by omega)).1 i hi))
theorem lam_ev {U : Nat → Nat → Nat} {K : Nat → Nat} {r : Nat} (h : BasOK U K r) : ∀ p, p ≤ r → ∀ i, i < 6 → ∀ {v : Nat → Nat}, B6 v → ev (lam U K p i) v = rst U K p v i
  | 0, _, i, hi, v, hv => ev_sgl hv hi
  | p + 1, hp, i, hi, v, hv => by
    have hK := (h p (by omega)).2
    have hU := (h p (by omega)).1 i hi
    have l1 := lam_lt h p (by omega) i hi
    have l2 := lam_lt h p (by omega) (K p) hK
    show ev (fun k => lam U K p i k ^^^ gm (lam U K p (K p) k) (U p i)) v = rst U K p v i ^^^ gm (U p i) (rst U K p v (K p))
    rw [ev_xor_l l1 (l2.gm hU) hv, ev_gm_l l2 hv hU, lam_ev h p (by omega) i hi hv, lam_ev h p (by omega) (K p) hK hv, gm_comm (rst_lt h p (by omega) hv _ hK) hU]
/-- a functional that is 0 on the basis doesn't see what is taken out -/
theorem ev_rst {U : Nat → Nat → Nat} {K : Nat → Nat} {r : Nat} (h : BasOK U K r) {l : Nat → Nat} (hl : B6 l) (h0 : ∀ p, p < r → ev l (U p) = 0) : ∀ p, p ≤ r → ∀ {v : Nat → Nat}, B6 v → ev l (rst U K p v) = ev l v
  | 0, _, _, _ => rfl
  | p + 1, hp, v, hv => by
    have hx := rst_lt h p (by omega) hv
    show ev l (fun i => rst U K p v i ^^^ gm (U p i) (rst U K p v (K p))) = ev l v
    rw [ev_xor_r hl hx ((h p (by omega)).1.gm (hx _ (h p (by omega)).2)), ev_gm_r hl (h p (by omega)).1 (hx _ (h p (by omega)).2), h0 p (by omega), gm_0l (hx _ (h p (by omega)).2), Nat.xor_zero, ev_rst h hl h0 p (by omega) hv]
theorem rst_0 {U : Nat → Nat → Nat} {K : Nat → Nat} {r : Nat} (h : BasOK U K r) {p : Nat} (hp : p < r) {v : Nat → Nat} (hv : ∀ i, i < 6 → rst U K p v i = 0) : ∀ i, i < 6 → rst U K (p + 1) v i = 0 := by
  intro i hi
  show rst U K p v i ^^^ gm (U p i) (rst U K p v (K p)) = 0
  rw [hv i hi, hv _ (h p hp).2, gm_0 ((h p hp).1 i hi)]
  rfl
