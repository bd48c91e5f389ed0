/-! The state: what the reference's row of numbers is, and how the class's shops stand to it. -/
def BI (pu le : Int → Int) (ev tk hc : Int) (hv hr he : Int → Int) (nv nr t : Int) : Prop :=
  (0 ≤ ev ∧ ev ≤ t) ∧ (0 ≤ hc ∧ hc ≤ 12) ∧ (∀ r, 0 ≤ r → r < nr → 0 ≤ pu r ∧ pu r ≤ 999) ∧ (∀ v, 0 ≤ v → v < nv → -1 ≤ le v ∧ le v < 6) ∧
  (∀ v w, 0 ≤ v → v < nv → 0 ≤ w → w < nv → v ≠ w → le v = le w → le v = -1) ∧
  (∀ i, 0 ≤ i → i < hc → (0 ≤ hv i ∧ hv i < 6) ∧ (0 ≤ hr i ∧ hr i < 6) ∧ (0 ≤ he i ∧ he i ≤ t)) ∧ (0 ≤ tk ∧ tk ≤ 200 * t)
def BN (N : Int → Int) (t : Int) : Prop := BI (fun r => N (43 + 3 * r + 1)) (fun v => N (7 + 6 * v + 4)) (N 2) (N 3) (N 4) (fun i => N (61 + 3 * i)) (fun i => N (61 + 3 * i + 1)) (fun i => N (61 + 3 * i + 2)) (N 0) (N 1) t
def BP (N : Int → Int) (u t : Int) : Prop := BI (fun r => N (115 + 51 * u + r)) (fun v => N (115 + 51 * u + 6 + v)) (N (115 + 51 * u + 12)) (N (115 + 51 * u + 13)) (N (115 + 51 * u + 14)) (fun i => N (115 + 51 * u + 15 + 3 * i)) (fun i => N (115 + 51 * u + 15 + (3 * i + 1))) (fun i => N (115 + 51 * u + 15 + (3 * i + 2))) (N 0) (N 1) t
def NV (N : Int → Int) : Prop := ∀ v, 0 ≤ v → v < N 0 → (0 ≤ N (7 + 6 * v + 0) ∧ N (7 + 6 * v + 0) < 6) ∧ (1 ≤ N (7 + 6 * v + 1) ∧ N (7 + 6 * v + 1) ≤ 9) ∧ (0 ≤ N (7 + 6 * v + 2) ∧ N (7 + 6 * v + 2) ≤ 99) ∧ (0 ≤ N (7 + 6 * v + 3) ∧ N (7 + 6 * v + 3) < 6) ∧ (0 ≤ N (7 + 6 * v + 5) ∧ N (7 + 6 * v + 5) ≤ 255)
def NR (N : Int → Int) : Prop := ∀ r, 0 ≤ r → r < N 1 → (1 ≤ N (43 + 3 * r + 0) ∧ N (43 + 3 * r + 0) ≤ 9) ∧ (0 ≤ N (43 + 3 * r + 2) ∧ N (43 + 3 * r + 2) ≤ 6)
def ND (N : Int → Int) : Prop := ∀ i, 0 ≤ i → i < N 5 → (0 ≤ N (97 + 3 * i) ∧ N (97 + 3 * i) < 6) ∧ (0 ≤ N (97 + 3 * i + 1) ∧ N (97 + 3 * i + 1) ≤ 99) ∧ (0 ≤ N (97 + 3 * i + 2) ∧ N (97 + 3 * i + 2) < 6)
def NI (N : Int → Int) (t : Int) : Prop := ((0 ≤ N 0 ∧ N 0 ≤ 6) ∧ (0 ≤ N 1 ∧ N 1 ≤ 6) ∧ (0 ≤ N 5 ∧ N 5 ≤ 6) ∧ (0 ≤ N 6 ∧ N 6 ≤ 8)) ∧ NV N ∧ NR N ∧ ND N ∧ BN N t ∧ (∀ u, 0 ≤ u → u < N 6 → BP N u t)
/-- a Book of the class is as told -/
def BR (μ : zM) (b : Int) (pu le : Int → Int) (ev tk hc : Int) (hv hr he : Int → Int) (nv nr : Int) : Prop :=
  (μ b 0 = ev ∧ μ b 1 = tk ∧ μ b 2 = hc) ∧ (∀ r, 0 ≤ r → r < nr → μ (b + 1) r = pu r) ∧ (∀ v, 0 ≤ v → v < nv → μ (b + 2) v = le v) ∧ (∀ v, nv ≤ v → v < 6 → μ (b + 2) v = -1) ∧
  (∀ i, 0 ≤ i → i < hc → μ (b + 3) i = hv i ∧ μ (b + 4) i = hr i ∧ μ (b + 5) i = he i)
def RN (μ : zM) (b : Int) (N : Int → Int) : Prop := BR μ b (fun r => N (43 + 3 * r + 1)) (fun v => N (7 + 6 * v + 4)) (N 2) (N 3) (N 4) (fun i => N (61 + 3 * i)) (fun i => N (61 + 3 * i + 1)) (fun i => N (61 + 3 * i + 2)) (N 0) (N 1)
def RP (μ : zM) (b : Int) (N : Int → Int) (u : Int) : Prop := BR μ b (fun r => N (115 + 51 * u + r)) (fun v => N (115 + 51 * u + 6 + v)) (N (115 + 51 * u + 12)) (N (115 + 51 * u + 13)) (N (115 + 51 * u + 14)) (fun i => N (115 + 51 * u + 15 + 3 * i)) (fun i => N (115 + 51 * u + 15 + (3 * i + 1))) (fun i => N (115 + 51 * u + 15 + (3 * i + 2))) (N 0) (N 1)
def RV (μ : zM) (a : Int) (N : Int → Int) : Prop := ∀ v, 0 ≤ v → v < N 0 → μ (a + 8) v = N (7 + 6 * v + 0) ∧ μ (a + 9) v = N (7 + 6 * v + 1) ∧ μ (a + 10) v = N (7 + 6 * v + 2) ∧ μ (a + 11) v = N (7 + 6 * v + 3) ∧ μ (a + 12) v = N (7 + 6 * v + 5)
def RR (μ : zM) (a : Int) (N : Int → Int) : Prop := ∀ r, 0 ≤ r → r < N 1 → μ (a + 13) r = N (43 + 3 * r + 0) ∧ μ (a + 14) r = N (43 + 3 * r + 2)
def RD (μ : zM) (a : Int) (N : Int → Int) : Prop := ∀ i, 0 ≤ i → i < N 5 → μ (a + 15) i = N (97 + 3 * i) ∧ μ (a + 16) i = N (97 + 3 * i + 1) ∧ μ (a + 17) i = N (97 + 3 * i + 2)
/-- a shop of the class at a is as the row N tells -/
def RS (μ : zM) (a : Int) (N : Int → Int) : Prop := (μ a 1 = N 0 ∧ μ a 2 = N 1 ∧ μ a 3 = N 5 ∧ μ a 4 = N 6) ∧ RV μ a N ∧ RR μ a N ∧ RD μ a N ∧ RN μ (a + 18) N ∧ (∀ u, 0 ≤ u → u < N 6 → RP μ (μ (a + 24) u) N u)
/-- the past Books of a shop: where they lie -/
def PS (μ : zM) (a : Int) : Prop := (∀ u, 0 ≤ u → u < 8 → a + 25 ≤ μ (a + 24) u ∧ μ (a + 24) u ≤ a + 67 ∧ (μ (a + 24) u - a) % 6 = 1) ∧ (∀ u w, 0 ≤ u → u < 8 → 0 ≤ w → w < 8 → μ (a + 24) u = μ (a + 24) w → u = w)
def Sh (σ : zSh) (a : Int) : Prop := Sp σ a ∧ ∀ p, a + 25 ≤ p → p ≤ a + 67 → (p - a) % 6 = 1 → Bk σ p
theorem Sh.bk {σ : zSh} {a : Int} (h : Sh σ a) : Bk σ (a + 18) := h.1.2.2.1
def Wk (σ : zSh) (μ : zM) : Prop := Wl σ ∧ (∀ r, 0 ≤ r → r < 7 → μ 9 r = r)
def AD (σ : zSh) (μ : zM) : Prop := (μ 0 5 = 22 ∧ μ 0 6 = 95 ∨ μ 0 5 = 95 ∧ μ 0 6 = 22) ∧ Sh σ 22 ∧ Sh σ 95
def TX (μ : zM) : Prop := (0 ≤ μ 2 1 ∧ μ 2 1 ≤ 150 ∧ μ 168 20 = μ 2 1) ∧ ∀ j, 0 ≤ j → j < μ 2 1 → μ 3 j = μ 181 j ∧ 0 ≤ μ 181 j ∧ μ 181 j ≤ 127
def AB (μ : zM) : Prop := μ 168 4 = μ 0 7 ∧ μ 168 5 = μ 0 8
def RF (μ : zM) : Prop := ∀ i, 0 ≤ i → i < 3 → μ 21 i = μ 172 i
/-- an image -/
def IM (σ : zSh) (μ : zM) (i t : Int) : Prop := (μ 1 i = -1 ∧ μ 171 i = 0) ∨ (μ 171 i = 1 ∧ (μ 1 i = 184 ∨ μ 1 i = 257) ∧ Sh σ (μ 1 i) ∧ NI (fun k => μ 170 (523 * i + k)) t ∧ RS μ (μ 1 i) (fun k => μ 170 (523 * i + k)) ∧ PS μ (μ 1 i))
def IL (σ : zSh) (μ : zM) : Prop := (σ.length = 184 ∧ μ 1 0 = -1 ∧ μ 1 1 = -1) ∨ (σ.length = 257 ∧ (μ 1 0 = 184 ∧ μ 1 1 = -1 ∨ μ 1 0 = -1 ∧ μ 1 1 = 184)) ∨ (σ.length = 330 ∧ (μ 1 0 = 184 ∧ μ 1 1 = 257 ∨ μ 1 0 = 257 ∧ μ 1 1 = 184))
def WS (σ : zSh) (μ : zM) (t : Int) : Prop := Wk σ μ ∧ NI (μ 169) t ∧ RS μ (μ 0 5) (μ 169) ∧ (PS μ 22 ∧ PS μ 95) ∧ TX μ ∧ AB μ ∧ RF μ ∧ (IM σ μ 0 t ∧ IM σ μ 1 t) ∧ IL σ μ ∧ AD σ μ
