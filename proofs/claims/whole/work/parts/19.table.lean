/-! Table: what its methods do, as functions -/
abbrev tNode (T : Tb) (x : Int) : Int := t_keys T x / 64
abbrev tFa (T : Tb) (x : Int) : Int := t_keys T x / 8 % 8
abbrev tFb (T : Tb) (x : Int) : Int := t_keys T x % 8
def tFacts (T : Tb) (n : Int) : Int := it (fun a r => bO r (t_seen T (n * 8 + a))) 8 0 0
def tFirst (T : Tb) (n f : Int) : Int := it (fun a r => if tb (t_seen T (n * 8 + a)) f = true then (if r = -1 then t_placeOf T ((n * 8 + a) * 8 + f) else min r (t_placeOf T ((n * 8 + a) * 8 + f))) else r) 8 0 (-1)
abbrev tLand (P : Pg) (T : Tb) (x e : Int) : Int := p_to P e * 8 + tFa T x
def tPush (T : Tb) (cell b y z wl il : Int) : Tb := ts_size (ts_inner (ts_way (ts_through (ts_before (ts_placeOf (ts_keys T (up (t_keys T) (t_size T) (cell * 8 + b))) (up (t_placeOf T) (cell * 8 + b) (t_size T))) (up (t_before T) (t_size T) y)) (up (t_through T) (t_size T) z)) (up (t_way T) (t_size T) wl)) (up (t_inner T) (t_size T) il)) (t_size T + 1)
def tWith (T : Tb) (z : Int) : Int := 1 + (if z = -1 then 0 else t_inner T z)
def tWay (T : Tb) (y z : Int) : Int := if y = -1 then 1 else min (t_way T y + tWith T z) 1000
def tInn (P : Pg) (T : Tb) (cell y z : Int) : Int := if y = -1 ∨ p_kindOf P (cell / 8) = 0 then 1 else min (t_inner T y + tWith T z) 1000
def tComeF (cell y z wl il fr : Int) (b : Int) (T : Tb) : Tb := if tb fr b = true ∧ t_size T < 1536 then tPush T cell b y z wl il else T
def tCome (P : Pg) (cell x y z : Int) (T : Tb) : Tb := if bD x (t_seen T cell) = 0 then T else it (tComeF cell y z (tWay T y z) (tInn P T cell y z) (bD x (t_seen T cell))) 8 0 (ts_seen T (up (t_seen T) cell (bO (t_seen T cell) (bD x (t_seen T cell)))))
def tNote (x e : Int) (T : Tb) : Tb := if 2048 ≤ t_siteCount T then T else ts_siteCount (ts_sites T (up (t_sites T) (t_siteCount T) (x * 32 + e))) (t_siteCount T + 1)
def tLeaveF (P : Pg) (x e ec : Int) (f : Int) (T : Tb) : Tb := if tb (t_seen T ec) f = true then tCome P (tLand P T x e) (pReach P e 2 f) x (t_placeOf T (ec * 8 + f)) T else T
def tLeave (P : Pg) (x e ec : Int) (T : Tb) : Tb := it (tLeaveF P x e ec) 8 0 T
def tEnterF (P : Pg) (x e ins : Int) (c : Int) (T : Tb) : Tb := if tb ins c = true then tLeave P x e (p_exitOf P (p_callee P e) * 8 + c) (tCome P (p_entryOf P (p_callee P e) * 8 + c) (p2 c) x (-1) T) else T
def tEnter (P : Pg) (x e : Int) (T : Tb) : Tb := it (tEnterF P x e (pReach P e 1 (tFb (tNote x e T) x))) 8 0 (tNote x e T)
def tRetF (P : Pg) (p a z : Int) (i : Int) (T : Tb) : Tb := if p_callee P (t_sites T i % 32) = p ∧ tb (pReach P (t_sites T i % 32) 1 (tFb T (t_sites T i / 32))) a = true then tCome P (tLand P T (t_sites T i / 32) (t_sites T i % 32)) (pReach P (t_sites T i % 32) 2 (tFb T z)) (t_sites T i / 32) z T else T
def tRet (P : Pg) (z : Int) (T : Tb) : Tb := it (tRetF P (p_procOf P (tNode T z)) (tFa T z) z) (t_siteCount T).toNat 0 T
def tTakeE (P : Pg) (x e : Int) (T : Tb) : Tb := if p_callee P e = -1 then T else tEnter P x e T
def tTakeF (P : Pg) (x n : Int) (e : Int) (T : Tb) : Tb := if p_from P e = n then tCome P (tLand P (tTakeE P x e T) x e) (pReach P e 0 (tFb (tTakeE P x e T) x)) x (-1) (tTakeE P x e T) else T
def tTake (P : Pg) (x : Int) (T : Tb) : Tb := if p_kindOf P (tNode T x) = 1 then tRet P x T else it (tTakeF P x (tNode T x)) (p_edges P).toNat 0 T
def tSeedF (P : Pg) (q s : Int) (a : Int) (T : Tb) : Tb := if tb s a = true then tCome P (p_entryOf P q * 8 + a) (p2 a) (-1) (-1) T else T
def tClear (q s : Int) (T : Tb) : Tb := it (fun i T => ts_seen T (up (t_seen T) i 0)) 192 0 (ts_siteCount (ts_size (ts_seedFacts (ts_seedProc (ts_ready T 1) q) s) 0) 0)
def tRun (P : Pg) : Nat → Int → Tb → Tb
  | 0, _, T => T
  | k + 1, x, T => if x < t_size T then tRun P k (x + 1) (tTake P x T) else T
def tFill (P : Pg) (q s : Int) (T : Tb) : Tb := if t_ready T ≠ 0 ∧ t_seedProc T = q ∧ t_seedFacts T = s then T else tRun P 1536 0 (it (tSeedF P q s) 8 0 (tClear q s T))
/-! its ranges stay -/
theorem up_rng {f : Int → Int} {n : Int} {lo hi : Int} (h : ∀ j : Int, 0 ≤ j → j < n → lo ≤ f j ∧ f j ≤ hi) (i : Int) {v : Int} (hv : lo ≤ v ∧ v ≤ hi) : ∀ j : Int, 0 ≤ j → j < n → lo ≤ up f i v j ∧ up f i v j ≤ hi := by
  intro j h1 h2
  unfold up
  split
  · exact hv
  · exact h j h1 h2
theorem tPush_ok {T : Tb} {cell b y z wl il : Int} (h : tOk T) (hs : t_size T < 1536) (hc : 0 ≤ cell ∧ cell < 192) (hb : 0 ≤ b ∧ b < 8) (hy : -1 ≤ y ∧ y < 1536) (hz : -1 ≤ z ∧ z < 1536) (hw : 0 ≤ wl ∧ wl ≤ 1000) (hi : 0 ≤ il ∧ il ≤ 1000) : tOk (tPush T cell b y z wl il) := by
  obtain ⟨h1, h2, h3, h4, h5, h6, h7, h8, h9, h10, h11, h12, h13⟩ := h
  exact ⟨h1, h2, h3, ⟨by show 0 ≤ t_size T + 1; omega, by show t_size T + 1 ≤ 1536; omega⟩, h5, up_rng h6 _ (by omega), up_rng h7 _ (by omega), up_rng h8 _ (by omega), up_rng h9 _ (by omega), up_rng h10 _ (by omega), up_rng h11 _ (by omega), h12, h13⟩
theorem tComeF_ok {T : Tb} {cell b y z wl il fr : Int} (h : tOk T) (hc : 0 ≤ cell ∧ cell < 192) (hb : 0 ≤ b ∧ b < 8) (hy : -1 ≤ y ∧ y < 1536) (hz : -1 ≤ z ∧ z < 1536) (hw : 0 ≤ wl ∧ wl ≤ 1000) (hi : 0 ≤ il ∧ il ≤ 1000) : tOk (tComeF cell y z wl il fr b T) := by
  unfold tComeF
  split
  · rename_i hq; exact tPush_ok h hq.2 hc hb hy hz hw hi
  · exact h
theorem tWith_r {T : Tb} {z : Int} (h : tOk T) (hz : -1 ≤ z ∧ z < 1536) : 1 ≤ tWith T z ∧ tWith T z ≤ 1001 := by
  obtain ⟨h1, h2, h3, h4, h5, h6, h7, h8, h9, h10, h11, h12, h13⟩ := h
  unfold tWith
  split
  · omega
  · have := h11 z (by omega) (by omega); omega
theorem tWay_r {T : Tb} {y z : Int} (h : tOk T) (hy : -1 ≤ y ∧ y < 1536) (hz : -1 ≤ z ∧ z < 1536) : 0 ≤ tWay T y z ∧ tWay T y z ≤ 1000 := by
  have hw := tWith_r h hz
  obtain ⟨h1, h2, h3, h4, h5, h6, h7, h8, h9, h10, h11, h12, h13⟩ := h
  unfold tWay
  split
  · omega
  · have := h10 y (by omega) (by omega); omega
theorem tInn_r {P : Pg} {T : Tb} {cell y z : Int} (h : tOk T) (hy : -1 ≤ y ∧ y < 1536) (hz : -1 ≤ z ∧ z < 1536) : 0 ≤ tInn P T cell y z ∧ tInn P T cell y z ≤ 1000 := by
  have hw := tWith_r h hz
  obtain ⟨h1, h2, h3, h4, h5, h6, h7, h8, h9, h10, h11, h12, h13⟩ := h
  unfold tInn
  split
  · omega
  · have := h11 y (by omega) (by omega); omega
theorem tCome_ok {P : Pg} {T : Tb} {cell x y z : Int} (h : tOk T) (hc : 0 ≤ cell ∧ cell < 192) (hx : 0 ≤ x ∧ x < 256) (hy : -1 ≤ y ∧ y < 1536) (hz : -1 ≤ z ∧ z < 1536) : tOk (tCome P cell x y z T) := by
  unfold tCome
  split
  · exact h
  · have hw := tWay_r h hy hz
    have hi := tInn_r (P := P) (cell := cell) h hy hz
    refine it_inv (fun _ X => tOk X) (b := 8) 8 0 _ (by omega) ?_ (fun j X h1 h2 hX => tComeF_ok hX hc (by omega) hy hz hw hi)
    obtain ⟨h1, h2, h3, h4, h5, h6, h7, h8, h9, h10, h11, h12, h13⟩ := h
    have hs := h5 cell (by omega) (by omega)
    exact ⟨h1, h2, h3, h4, up_rng h5 _ ⟨bO_0 _ _, by have := bO_8 (a := t_seen T cell) (b := bD x (t_seen T cell)) (by omega) (bD_8 _ (by omega)); omega⟩, h6, h7, h8, h9, h10, h11, h12, h13⟩
theorem tNote_ok {T : Tb} {x e : Int} (h : tOk T) (hx : 0 ≤ x ∧ x < 1536) (he : 0 ≤ e ∧ e < 32) : tOk (tNote x e T) := by
  unfold tNote
  split
  · exact h
  · obtain ⟨h1, h2, h3, h4, h5, h6, h7, h8, h9, h10, h11, h12, h13⟩ := h
    exact ⟨h1, h2, h3, h4, h5, h6, h7, h8, h9, h10, h11, up_rng h12 _ (by omega), ⟨by show 0 ≤ t_siteCount T + 1; omega, by show t_siteCount T + 1 ≤ 2048; omega⟩⟩
theorem tLand_r {P : Pg} {T : Tb} {x e : Int} (hP : pOk P) (h : tOk T) (hx : 0 ≤ x ∧ x < 1536) (he : 0 ≤ e ∧ e < 32) : 0 ≤ tLand P T x e ∧ tLand P T x e < 192 := by
  obtain ⟨h1, h2, h3, h4, h5, h6, h7, h8, h9, h10, h11, h12, h13⟩ := h
  obtain ⟨p1, p2, p3, p4, p5, p6, p7, p8, p9, p10, p11⟩ := hP
  have := h6 x (by omega) (by omega)
  have := p10 e (by omega) (by omega)
  show 0 ≤ p_to P e * 8 + t_keys T x / 8 % 8 ∧ p_to P e * 8 + t_keys T x / 8 % 8 < 192
  omega
theorem pReach_r (P : Pg) (e w a : Int) : 0 ≤ pReach P e w a ∧ pReach P e w a < 256 := by
  have := byL_0 (p_flow P (e * 3 + w)) a
  unfold pReach; omega
theorem tLeaveF_ok {P : Pg} {T : Tb} {x e ec f : Int} (hP : pOk P) (h : tOk T) (hx : 0 ≤ x ∧ x < 1536) (he : 0 ≤ e ∧ e < 32) (hec : 0 ≤ ec ∧ ec < 192) (hf : 0 ≤ f ∧ f < 8) : tOk (tLeaveF P x e ec f T) := by
  unfold tLeaveF
  split
  · have := h.2.2.2.2.2.2.1 (ec * 8 + f) (by omega) (by omega)
    exact tCome_ok h (tLand_r hP h hx he) (pReach_r P e 2 f) (by omega) (by omega)
  · exact h
theorem tLeave_ok {P : Pg} {T : Tb} {x e ec : Int} (hP : pOk P) (h : tOk T) (hx : 0 ≤ x ∧ x < 1536) (he : 0 ≤ e ∧ e < 32) (hec : 0 ≤ ec ∧ ec < 192) : tOk (tLeave P x e ec T) :=
  it_inv (fun _ X => tOk X) (b := 8) 8 0 _ (by omega) h (fun j X h1 h2 hX => tLeaveF_ok hP hX hx he hec (by omega))
theorem pEnds_r {P : Pg} {q c : Int} (hP : pOk P) (hq : 0 ≤ q ∧ q < 5) (hc : 0 ≤ c ∧ c < 8) : (0 ≤ p_entryOf P q * 8 + c ∧ p_entryOf P q * 8 + c < 192) ∧ (0 ≤ p_exitOf P q * 8 + c ∧ p_exitOf P q * 8 + c < 192) := by
  obtain ⟨p1, p2, p3, p4, p5, p6, p7, p8, p9, p10, p11⟩ := hP
  have := p5 q (by omega) (by omega)
  have := p6 q (by omega) (by omega)
  omega
theorem tEnterF_ok {P : Pg} {T : Tb} {x e ins c : Int} (hP : pOk P) (h : tOk T) (hx : 0 ≤ x ∧ x < 1536) (he : 0 ≤ e ∧ e < 32) (hq : 0 ≤ p_callee P e ∧ p_callee P e < 5) (hc : 0 ≤ c ∧ c < 8) : tOk (tEnterF P x e ins c T) := by
  unfold tEnterF
  split
  · have hE := pEnds_r hP hq hc
    have := p2_0 c
    have := p2_8 (k := c) (by omega)
    exact tLeave_ok hP (tCome_ok h hE.1 (by omega) (by omega) (by omega)) hx he hE.2
  · exact h
theorem tEnter_ok {P : Pg} {T : Tb} {x e : Int} (hP : pOk P) (h : tOk T) (hx : 0 ≤ x ∧ x < 1536) (he : 0 ≤ e ∧ e < 32) (hq : 0 ≤ p_callee P e ∧ p_callee P e < 5) : tOk (tEnter P x e T) :=
  it_inv (fun _ X => tOk X) (b := 8) 8 0 _ (by omega) (tNote_ok h hx he) (fun j X h1 h2 hX => tEnterF_ok hP hX hx he hq (by omega))
theorem tRetF_ok {P : Pg} {T : Tb} {p a z i : Int} (hP : pOk P) (h : tOk T) (hz : 0 ≤ z ∧ z < 1536) (hi : 0 ≤ i ∧ i < 2048) : tOk (tRetF P p a z i T) := by
  unfold tRetF
  split
  · have := h.2.2.2.2.2.2.2.2.2.2.2.1 i (by omega) (by omega)
    exact tCome_ok h (tLand_r hP h (by omega) (by omega)) (pReach_r P _ 2 _) (by omega) (by omega)
  · exact h
theorem tCome_sc (P : Pg) (cell x y z : Int) (T : Tb) : t_siteCount (tCome P cell x y z T) = t_siteCount T ∧ t_sites (tCome P cell x y z T) = t_sites T := by
  unfold tCome
  split
  · exact ⟨rfl, rfl⟩
  · refine it_inv (fun _ X => t_siteCount X = t_siteCount T ∧ t_sites X = t_sites T) (b := 8) 8 0 _ (by omega) ⟨rfl, rfl⟩ (fun j X h1 h2 hX => ?_)
    unfold tComeF
    split
    · exact hX
    · exact hX
theorem tRetF_sc (P : Pg) (p a z i : Int) (T : Tb) : t_siteCount (tRetF P p a z i T) = t_siteCount T ∧ t_sites (tRetF P p a z i T) = t_sites T := by
  unfold tRetF
  split
  · exact tCome_sc _ _ _ _ _ _
  · exact ⟨rfl, rfl⟩
theorem tRet_ok {P : Pg} {T : Tb} {z : Int} (hP : pOk P) (h : tOk T) (hz : 0 ≤ z ∧ z < 1536) : tOk (tRet P z T) := by
  have hs := h.2.2.2.2.2.2.2.2.2.2.2.2
  exact it_inv (fun _ X => tOk X) (b := t_siteCount T) _ 0 _ (by omega) h (fun j X h1 h2 hX => tRetF_ok hP hX hz (by omega))
theorem tTakeE_ok {P : Pg} {T : Tb} {x e : Int} (hP : pOk P) (h : tOk T) (hx : 0 ≤ x ∧ x < 1536) (he : 0 ≤ e ∧ e < 32) : tOk (tTakeE P x e T) := by
  have hc := hP.2.2.2.2.2.2.2.2.2.2 e (by omega) (by omega)
  unfold tTakeE
  split
  · exact h
  · exact tEnter_ok hP h hx he (by omega)
theorem tTakeF_ok {P : Pg} {T : Tb} {x n e : Int} (hP : pOk P) (h : tOk T) (hx : 0 ≤ x ∧ x < 1536) (he : 0 ≤ e ∧ e < 32) : tOk (tTakeF P x n e T) := by
  have hE := tTakeE_ok hP h hx he
  unfold tTakeF
  split
  · exact tCome_ok hE (tLand_r hP hE hx he) (pReach_r P _ _ _) (by omega) (by omega)
  · exact h
theorem tTake_ok {P : Pg} {T : Tb} {x : Int} (hP : pOk P) (h : tOk T) (hx : 0 ≤ x ∧ x < 1536) : tOk (tTake P x T) := by
  unfold tTake
  split
  · exact tRet_ok hP h hx
  · have he := hP.2.2.1
    exact it_inv (fun _ X => tOk X) (b := p_edges P) _ 0 _ (by omega) h (fun j X h1 h2 hX => tTakeF_ok hP hX hx (by omega))
theorem tSeedF_ok {P : Pg} {T : Tb} {q s a : Int} (hP : pOk P) (h : tOk T) (hq : 0 ≤ q ∧ q < 5) (ha : 0 ≤ a ∧ a < 8) : tOk (tSeedF P q s a T) := by
  unfold tSeedF
  split
  · have hE := pEnds_r hP hq ha
    have := p2_0 a
    have := p2_8 (k := a) (by omega)
    exact tCome_ok h hE.1 (by omega) (by omega) (by omega)
  · exact h
theorem tClear_ok {T : Tb} {q s : Int} (h : tOk T) (hq : 0 ≤ q ∧ q < 5) (hs : 0 ≤ s ∧ s < 256) : tOk (tClear q s T) := by
  unfold tClear
  refine it_inv (fun _ X => tOk X) (b := 192) 192 0 _ (by omega) ?_ (fun j X h1 h2 hX => ?_)
  · obtain ⟨h1, h2, h3, h4, h5, h6, h7, h8, h9, h10, h11, h12, h13⟩ := h
    exact ⟨show (0 : Int) ≤ 1 ∧ (1 : Int) ≤ 1 by decide, ⟨hq.1, by show q ≤ 4; omega⟩, ⟨hs.1, by show s ≤ 255; omega⟩, show (0 : Int) ≤ 0 ∧ (0 : Int) ≤ 1536 by decide, h5, h6, h7, h8, h9, h10, h11, h12, show (0 : Int) ≤ 0 ∧ (0 : Int) ≤ 2048 by decide⟩
  · obtain ⟨h1, h2, h3, h4, h5, h6, h7, h8, h9, h10, h11, h12, h13⟩ := hX
    exact ⟨h1, h2, h3, h4, up_rng h5 _ (by decide), h6, h7, h8, h9, h10, h11, h12, h13⟩
theorem tRun_ok {P : Pg} (hP : pOk P) (k : Nat) : ∀ (x : Int) (T : Tb), 0 ≤ x → x + k = 1536 → tOk T → tOk (tRun P k x T) := by
  induction k with
  | zero => intro x T _ _ h; exact h
  | succ k ih =>
    intro x T hx hk h
    unfold tRun
    split
    · exact ih (x + 1) _ (by omega) (by omega) (tTake_ok hP h (by omega))
    · exact h
theorem tSeeds_ok {P : Pg} {T : Tb} {q s : Int} (hP : pOk P) (h : tOk T) (hq : 0 ≤ q ∧ q < 5) : tOk (it (tSeedF P q s) 8 0 T) :=
  it_inv (fun _ X => tOk X) (b := 8) 8 0 _ (by omega) h (fun j X h1 h2 hX => tSeedF_ok hP hX hq (by omega))
theorem tFill_ok {P : Pg} {T : Tb} {q s : Int} (hP : pOk P) (h : tOk T) (hq : 0 ≤ q ∧ q < 5) (hs : 0 ≤ s ∧ s < 256) : tOk (tFill P q s T) := by
  unfold tFill
  split
  · exact h
  · exact tRun_ok hP 1536 0 _ (by omega) (by omega) (tSeeds_ok hP (tClear_ok h hq hs) hq)
theorem tFacts_r {T : Tb} {n : Int} (h : tOk T) (hn : 0 ≤ n ∧ n < 24) : 0 ≤ tFacts T n ∧ tFacts T n < 256 := by
  unfold tFacts
  refine it_inv (fun _ r => 0 ≤ r ∧ r < 256) (b := 8) 8 0 _ (by omega) (by omega) (fun j r h1 h2 hr => ?_)
  have := h.2.2.2.2.1 (n * 8 + j) (by omega) (by omega)
  exact ⟨bO_0 _ _, bO_8 hr.2 (by omega)⟩
theorem tLand_q (P : Pg) (T : Tb) (x e : Int) (hP : pOk P) (h : tOk T) (hx : 0 ≤ x ∧ x < 1536) (he : 0 ≤ e ∧ e < 32) : 0 ≤ p_to P e * 8 + t_keys T x / 8 % 8 ∧ p_to P e * 8 + t_keys T x / 8 % 8 < 192 := tLand_r hP h hx he
theorem tKeys_q (T : Tb) (x : Int) (h : tOk T) (hx : 0 ≤ x ∧ x < 1536) : 0 ≤ t_keys T x ∧ t_keys T x ≤ 1535 := h.2.2.2.2.2.1 x (by omega) (by omega)
theorem tNote_keys (x e : Int) (T : Tb) : t_keys (tNote x e T) = t_keys T := by unfold tNote; split <;> rfl
/-- down the WAY (w) or the INNER of y to the one that tells the PAIR -/
def tPair (T : Tb) : Nat → Bool → Int → Int → Int
  | 0, _, y, _ => y
  | k + 1, w, y, left => if cond w (t_way T) (t_inner T) y ≤ 1 ∨ t_before T y = -1 then y else
      if left < cond w (t_way T) (t_inner T) (t_before T y) then tPair T k w (t_before T y) left
      else if t_through T y ≠ -1 ∧ left - cond w (t_way T) (t_inner T) (t_before T y) < t_inner T (t_through T y) then tPair T k false (t_through T y) (left - cond w (t_way T) (t_inner T) (t_before T y)) else y
def tPairOf (T : Tb) (x i : Int) : Int := 10 * (t_keys T (tPair T 1536 true x i) / 64) + t_keys T (tPair T 1536 true x i) % 8
theorem tPair_t (T : Tb) (k : Nat) (y left : Int) : tPair T (k + 1) true y left = if t_way T y ≤ 1 ∨ t_before T y = -1 then y else if left < t_way T (t_before T y) then tPair T k true (t_before T y) left else if t_through T y ≠ -1 ∧ left - t_way T (t_before T y) < t_inner T (t_through T y) then tPair T k false (t_through T y) (left - t_way T (t_before T y)) else y := rfl
theorem tPair_f (T : Tb) (k : Nat) (y left : Int) : tPair T (k + 1) false y left = if t_inner T y ≤ 1 ∨ t_before T y = -1 then y else if left < t_inner T (t_before T y) then tPair T k false (t_before T y) left else if t_through T y ≠ -1 ∧ left - t_inner T (t_before T y) < t_inner T (t_through T y) then tPair T k false (t_through T y) (left - t_inner T (t_before T y)) else y := rfl
