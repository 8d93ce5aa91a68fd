/-! THE REFERENCE'S CALLS -/
section
variable {a : Na} {S : St} {h : Zh} {Q : Zp}
theorem MK.em {T : St} {v : Zv} {c : Int} {g : Zh} (k : MK a T h Q v c) (hi : Ij a) (hm : RepM a T g) (f : FM a (tw a h c) a g) (gc : gC g = gC h) (gs : gS g = gS h) : Q (.inl (some v)) g := k a g hm (tw_FM hi f (by omega) (by omega)).2 (tw_FM hi f (by omega) (by omega)).1
theorem r_user (hi : Ij a) (hm : RepM a S h) (iv : Inv S) (rc : gC h + 80 ≤ MXC) (rs : gS h + 5600 ≤ MXS) (x : Int) (kk : MK a (xs (tr_user S x) (Suser S x) S) h Q (zi (xv (tr_user S x) (S 0 0 0))) (oc (tr_user S x))) :
    WP 98 0 [some (zr (some (a 100 0))), some (zi x)] [] h Q := by
  rw [m_user hi hm iv x]
  refine br_mo (fun e => br_mo (fun e => ?_) (fun e => ?_) e) (fun e => ?_) (oc_key (tr_user S x))
  · have e : oc (tr_user S x) = 0 := e
    rw [xs, xv, if_pos e, if_pos e, e] at kk
    exact kk.em hi (((hm.tw hi 0).wRight hi _ _).wUsers hi _) ((FM.I (f := 102) hi (by omega) (by omega) (by omega)).trans (FM.I (f := 100) (k := 1) hi (by omega) (by omega) (by omega))) rfl rfl
  · have e : oc (tr_user S x) = 2 := e
    rw [xs, xv, if_neg (by omega), if_neg (by omega), e] at kk
    exact kk.tw2 hi hm
  · have e : oc (tr_user S x) = 1 := e
    rw [xs, xv, if_neg (by omega), if_neg (by omega), e] at kk
    exact kk.tw2 hi hm
theorem r_setRight (hi : Ij a) (hm : RepM a S h) (iv : Inv S) (rc : gC h + 80 ≤ MXC) (rs : gS h + 5600 ≤ MXS) (w u x : Int) (kk : MK a (xs (tr_setRight S w u x) (su S 1 u 0 x) S) h Q (zi (xv (tr_setRight S w u x) (S 1 u 0))) (oc (tr_setRight S w u x))) :
    WP 99 0 [some (zr (some (a 100 0))), some (zi w), some (zi u), some (zi x), none] [] h Q := by
  rw [m_setRight hi hm iv w u x]
  refine br_mo (fun e => br_mo (fun e => br_mo (fun e => br_mo (fun e => ?_) (fun e => ?_) e) (fun e => ?_) e) (fun e => ?_) e) (fun e => ?_) (oc_key (tr_setRight S w u x))
  · have e : oc (tr_setRight S w u x) = 0 := e
    rw [xs, xv, if_pos e, if_pos e, e] at kk
    exact kk.em hi ((hm.tw hi 0).wRight hi _ _) (FM.I (f := 102) hi (by omega) (by omega) (by omega)) rfl rfl
  · have e : oc (tr_setRight S w u x) = 3 := e
    rw [xs, xv, if_neg (by omega), if_neg (by omega), e] at kk
    exact kk.tw2 hi hm
  · have e : oc (tr_setRight S w u x) = 2 := e
    rw [xs, xv, if_neg (by omega), if_neg (by omega), e] at kk
    exact kk.tw2 hi hm
  · have e : oc (tr_setRight S w u x) = 1 := e
    rw [xs, xv, if_neg (by omega), if_neg (by omega), e] at kk
    exact kk.tw2 hi hm
  · have e : oc (tr_setRight S w u x) = 1 := e
    rw [xs, xv, if_neg (by omega), if_neg (by omega), e] at kk
    exact kk.tw2 hi hm
theorem r_insert (hi : Ij a) (hm : RepM a S h) (iv : Inv S) (rc : gC h + 80 ≤ MXC) (rs : gS h + 5600 ≤ MXS) (u p n s : Int) (kk : MK a (xs (tr_insert S u p n s) (Sput S p n s) S) h Q (zi (xv (tr_insert S u p n s) (S 3 (S 2 0 0) 0 + n))) (oc (tr_insert S u p n s))) :
    WP 102 0 [some (zr (some (a 100 0))), some (zi u), some (zi p), some (zi n), some (zi s)] [] h Q := by
  refine m_insert hi hm iv (by omega) (by omega) u p n s ?_
  refine br_mo (fun e => br_mo (fun e => br_mo (fun e => br_mo (fun e => ?_) (fun e => ?_) e) (fun e => ?_) e) (fun e => ?_) e) (fun e => ?_) (oc_key (tr_insert S u p n s))
  · have e : oc (tr_insert S u p n s) = 0 := e
    rw [xs, xv, if_pos e, if_pos e, e] at kk
    exact kk
  · have e : oc (tr_insert S u p n s) = 3 := e
    rw [xs, xv, if_neg (by omega), if_neg (by omega), e] at kk
    exact kk
  · have e : oc (tr_insert S u p n s) = 2 := e
    rw [xs, xv, if_neg (by omega), if_neg (by omega), e] at kk
    exact kk
  · have e : oc (tr_insert S u p n s) = 1 := e
    rw [xs, xv, if_neg (by omega), if_neg (by omega), e] at kk
    exact kk
  · have e : oc (tr_insert S u p n s) = 1 := e
    rw [xs, xv, if_neg (by omega), if_neg (by omega), e] at kk
    exact kk
theorem r_delete (hi : Ij a) (hm : RepM a S h) (iv : Inv S) (rc : gC h + 80 ≤ MXC) (rs : gS h + 5600 ≤ MXS) (u p n : Int) (kk : MK a (xs (tr_delete S u p n) (Scut S p n) S) h Q (zi (xv (tr_delete S u p n) (S 3 (S 2 0 0) 0 - n))) (oc (tr_delete S u p n))) :
    WP 103 0 [some (zr (some (a 100 0))), some (zi u), some (zi p), some (zi n)] [] h Q := by
  refine m_delete hi hm iv (by omega) (by omega) u p n ?_
  refine br_mo (fun e => br_mo (fun e => br_mo (fun e => br_mo (fun e => ?_) (fun e => ?_) e) (fun e => ?_) e) (fun e => ?_) e) (fun e => ?_) (oc_key (tr_delete S u p n))
  · have e : oc (tr_delete S u p n) = 0 := e
    rw [xs, xv, if_pos e, if_pos e, e] at kk
    exact kk
  · have e : oc (tr_delete S u p n) = 3 := e
    rw [xs, xv, if_neg (by omega), if_neg (by omega), e] at kk
    exact kk
  · have e : oc (tr_delete S u p n) = 2 := e
    rw [xs, xv, if_neg (by omega), if_neg (by omega), e] at kk
    exact kk
  · have e : oc (tr_delete S u p n) = 1 := e
    rw [xs, xv, if_neg (by omega), if_neg (by omega), e] at kk
    exact kk
  · have e : oc (tr_delete S u p n) = 1 := e
    rw [xs, xv, if_neg (by omega), if_neg (by omega), e] at kk
    exact kk
theorem r_sign (hi : Ij a) (hm : RepM a S h) (iv : Inv S) (rc : gC h + 80 ≤ MXC) (rs : gS h + 5600 ≤ MXS) (v p : Int) (kk : MK a (xs (tr_sign S v p) (S) S) h Q (zi (xv (tr_sign S v p) (sg S v p))) (oc (tr_sign S v p))) :
    WP 105 0 [some (zr (some (a 100 0))), some (zi v), some (zi p)] [] h Q := by
  rw [m_sign hi hm iv v p]
  refine br_mo (fun e => ?_) (fun e => ?_) (oc_key (tr_sign S v p))
  · have e : oc (tr_sign S v p) = 0 := e
    rw [xs, xv, if_pos e, if_pos e, e] at kk
    exact kk.tw1 hi hm
  · have e : oc (tr_sign S v p) = 1 := e
    rw [xs, xv, if_neg (by omega), if_neg (by omega), e] at kk
    exact kk.tw2 hi hm
theorem r_now (hi : Ij a) (hm : RepM a S h) (iv : Inv S) (rc : gC h + 80 ≤ MXC) (rs : gS h + 5600 ≤ MXS) (v p : Int) (kk : MK a (xs (tr_now S v p) (S) S) h Q (zi (xv (tr_now S v p) (nw9 S v p))) (oc (tr_now S v p))) :
    WP 106 0 [some (zr (some (a 100 0))), some (zi v), some (zi p), none] [] h Q := by
  rw [m_now hi hm iv v p, ← brp]
  refine br_mo (fun e => br_mo (fun e => ?_) (fun e => ?_) e) (fun e => ?_) (oc_key (tr_now S v p))
  · have e : oc (tr_now S v p) = 0 := e
    rw [xs, xv, if_pos e, if_pos e, e] at kk
    exact kk.tw1 hi hm
  · have e : oc (tr_now S v p) = 1 := e
    rw [xs, xv, if_neg (by omega), if_neg (by omega), e] at kk
    exact kk.tw2 hi hm
  · have e : oc (tr_now S v p) = 1 := e
    rw [xs, xv, if_neg (by omega), if_neg (by omega), e] at kk
    exact kk.tw2 hi hm
theorem r_note (hi : Ij a) (hm : RepM a S h) (iv : Inv S) (rc : gC h + 80 ≤ MXC) (rs : gS h + 5600 ≤ MXS) (u f t v c : Int) (kk : MK a (xs (tr_note S u f t v c) (Snote S u f t v c) S) h Q (zi (xv (tr_note S u f t v c) (S 7 0 0))) (oc (tr_note S u f t v c))) :
    WP 112 0 [some (zr (some (a 100 0))), some (zi u), some (zi f), some (zi t), some (zi v), some (zi c), none] [] h Q := by
  refine m_note hi hm iv (by omega) (by omega) u f t v c ?_
  refine br_mo (fun e => br_mo (fun e => br_mo (fun e => ?_) (fun e => ?_) e) (fun e => ?_) e) (fun e => ?_) (oc_key (tr_note S u f t v c))
  · have e : oc (tr_note S u f t v c) = 0 := e
    rw [xs, xv, if_pos e, if_pos e, e] at kk
    exact kk
  · have e : oc (tr_note S u f t v c) = 3 := e
    rw [xs, xv, if_neg (by omega), if_neg (by omega), e] at kk
    exact kk
  · have e : oc (tr_note S u f t v c) = 2 := e
    rw [xs, xv, if_neg (by omega), if_neg (by omega), e] at kk
    exact kk
  · have e : oc (tr_note S u f t v c) = 1 := e
    rw [xs, xv, if_neg (by omega), if_neg (by omega), e] at kk
    exact kk
theorem r_reply (hi : Ij a) (hm : RepM a S h) (iv : Inv S) (rc : gC h + 80 ≤ MXC) (rs : gS h + 5600 ≤ MXS) (u q c : Int) (kk : MK a (xs (tr_reply S u q c) (Srep S u q c) S) h Q (zi (xv (tr_reply S u q c) (S 7 0 0))) (oc (tr_reply S u q c))) :
    WP 113 0 [some (zr (some (a 100 0))), some (zi u), some (zi q), some (zi c)] [] h Q := by
  refine m_reply hi hm iv u q c ?_
  refine br_mo (fun e => br_mo (fun e => br_mo (fun e => br_mo (fun e => ?_) (fun e => ?_) e) (fun e => ?_) e) (fun e => ?_) e) (fun e => ?_) (oc_key (tr_reply S u q c))
  · have e : oc (tr_reply S u q c) = 0 := e
    rw [xs, xv, if_pos e, if_pos e, e] at kk
    exact kk
  · have e : oc (tr_reply S u q c) = 3 := e
    rw [xs, xv, if_neg (by omega), if_neg (by omega), e] at kk
    exact kk
  · have e : oc (tr_reply S u q c) = 2 := e
    rw [xs, xv, if_neg (by omega), if_neg (by omega), e] at kk
    exact kk
  · have e : oc (tr_reply S u q c) = 1 := e
    rw [xs, xv, if_neg (by omega), if_neg (by omega), e] at kk
    exact kk
  · have e : oc (tr_reply S u q c) = 1 := e
    rw [xs, xv, if_neg (by omega), if_neg (by omega), e] at kk
    exact kk
theorem r_settle (hi : Ij a) (hm : RepM a S h) (iv : Inv S) (rc : gC h + 80 ≤ MXC) (rs : gS h + 5600 ≤ MXS) (u k x : Int) (hx : x = 0 ∨ x = 1) (kk : MK a (xs (tr_settle S u k x) (su S 18 (S 11 k 0) 0 x) S) h Q (zi (xv (tr_settle S u k x) (S 18 (S 11 k 0) 0))) (oc (tr_settle S u k x))) :
    WP 114 0 [some (zr (some (a 100 0))), some (zi u), some (zi k), some (zi x), none] [] h Q := by
  rw [m_settle hi hm iv u k x hx]
  refine br_mo (fun e => br_mo (fun e => br_mo (fun e => ?_) (fun e => ?_) e) (fun e => ?_) e) (fun e => ?_) (oc_key (tr_settle S u k x))
  · have e : oc (tr_settle S u k x) = 0 := e
    rw [xs, xv, if_pos e, if_pos e, e] at kk
    exact kk.em hi ((hm.tw hi 0).wA hi 18 (by omega) (by omega) (by omega) _ _) (FM.I (f := 118) hi (by omega) (by omega) (by omega)) rfl rfl
  · have e : oc (tr_settle S u k x) = 2 := e
    rw [xs, xv, if_neg (by omega), if_neg (by omega), e] at kk
    exact kk.tw2 hi hm
  · have e : oc (tr_settle S u k x) = 1 := e
    rw [xs, xv, if_neg (by omega), if_neg (by omega), e] at kk
    exact kk.tw2 hi hm
  · have e : oc (tr_settle S u k x) = 1 := e
    rw [xs, xv, if_neg (by omega), if_neg (by omega), e] at kk
    exact kk.tw2 hi hm
theorem r_remove (hi : Ij a) (hm : RepM a S h) (iv : Inv S) (rc : gC h + 80 ≤ MXC) (rs : gS h + 5600 ≤ MXS) (u k : Int) (kk : MK a (xs (tr_remove S u k) (Srem S k) S) h Q (zi (xv (tr_remove S u k) (Nrem S k))) (oc (tr_remove S u k))) :
    WP 116 0 [some (zr (some (a 100 0))), some (zi u), some (zi k), none, none] [] h Q := by
  refine m_remove hi hm iv u k ?_
  refine br_mo (fun e => br_mo (fun e => br_mo (fun e => ?_) (fun e => ?_) e) (fun e => ?_) e) (fun e => ?_) (oc_key (tr_remove S u k))
  · have e : oc (tr_remove S u k) = 0 := e
    rw [xs, xv, if_pos e, if_pos e, e] at kk
    exact kk
  · have e : oc (tr_remove S u k) = 2 := e
    rw [xs, xv, if_neg (by omega), if_neg (by omega), e] at kk
    exact kk
  · have e : oc (tr_remove S u k) = 1 := e
    rw [xs, xv, if_neg (by omega), if_neg (by omega), e] at kk
    exact kk
  · have e : oc (tr_remove S u k) = 1 := e
    rw [xs, xv, if_neg (by omega), if_neg (by omega), e] at kk
    exact kk
theorem r_propose (hi : Ij a) (hm : RepM a S h) (iv : Inv S) (rc : gC h + 80 ≤ MXC) (rs : gS h + 5600 ≤ MXS) (u k n s : Int) (kk : MK a (xs (tr_propose S u k n s) (su (su S 16 k 0 n) 17 k 0 s) S) h Q (zi (xv (tr_propose S u k n s) (k))) (oc (tr_propose S u k n s))) :
    WP 117 0 [some (zr (some (a 100 0))), some (zi u), some (zi k), some (zi n), some (zi s)] [] h Q := by
  rw [m_propose hi hm iv u k n s]
  refine br_mo (fun e => br_mo (fun e => br_mo (fun e => br_mo (fun e => ?_) (fun e => ?_) e) (fun e => ?_) e) (fun e => ?_) e) (fun e => ?_) (oc_key (tr_propose S u k n s))
  · have e : oc (tr_propose S u k n s) = 0 := e
    rw [xs, xv, if_pos e, if_pos e, e] at kk
    exact kk.em hi (((hm.tw hi 0).wA hi 16 (by omega) (by omega) (by omega) _ _).wA hi 17 (by omega) (by omega) (by omega) _ _) ((FM.I (f := 116) hi (by omega) (by omega) (by omega)).trans (FM.I (f := 117) hi (by omega) (by omega) (by omega))) rfl rfl
  · have e : oc (tr_propose S u k n s) = 3 := e
    rw [xs, xv, if_neg (by omega), if_neg (by omega), e] at kk
    exact kk.tw2 hi hm
  · have e : oc (tr_propose S u k n s) = 2 := e
    rw [xs, xv, if_neg (by omega), if_neg (by omega), e] at kk
    exact kk.tw2 hi hm
  · have e : oc (tr_propose S u k n s) = 1 := e
    rw [xs, xv, if_neg (by omega), if_neg (by omega), e] at kk
    exact kk.tw2 hi hm
  · have e : oc (tr_propose S u k n s) = 1 := e
    rw [xs, xv, if_neg (by omega), if_neg (by omega), e] at kk
    exact kk.tw2 hi hm
theorem r_take (hi : Ij a) (hm : RepM a S h) (iv : Inv S) (rc : gC h + 80 ≤ MXC) (rs : gS h + 5600 ≤ MXS) (u k : Int) (kk : MK a (xs (tr_take S u k) (Stake S k) S) h Q (zi (xv (tr_take S u k) (S 3 (S 2 0 0) 0 + (S 16 k 0 - (S 14 k 0 - S 13 k 0))))) (oc (tr_take S u k))) :
    WP 118 0 [some (zr (some (a 100 0))), some (zi u), some (zi k), none, none, none] [] h Q := by
  refine m_take hi hm iv (by omega) (by omega) u k ?_
  refine br_mo (fun e => br_mo (fun e => br_mo (fun e => br_mo (fun e => ?_) (fun e => ?_) e) (fun e => ?_) e) (fun e => ?_) e) (fun e => ?_) (oc_key (tr_take S u k))
  · have e : oc (tr_take S u k) = 0 := e
    rw [xs, xv, if_pos e, if_pos e, e] at kk
    exact kk
  · have e : oc (tr_take S u k) = 3 := e
    rw [xs, xv, if_neg (by omega), if_neg (by omega), e] at kk
    exact kk
  · have e : oc (tr_take S u k) = 2 := e
    rw [xs, xv, if_neg (by omega), if_neg (by omega), e] at kk
    exact kk
  · have e : oc (tr_take S u k) = 1 := e
    rw [xs, xv, if_neg (by omega), if_neg (by omega), e] at kk
    exact kk
  · have e : oc (tr_take S u k) = 1 := e
    rw [xs, xv, if_neg (by omega), if_neg (by omega), e] at kk
    exact kk
theorem r_many (hi : Ij a) (hm : RepM a S h) (iv : Inv S) (rc : gC h + 80 ≤ MXC) (rs : gS h + 5600 ≤ MXS) (w : Int) (kk : MK a (xs (tr_many S w) (S) S) h Q (zi (xv (tr_many S w) (MN S w))) (oc (tr_many S w))) :
    WP 124 0 [some (zr (some (a 100 0))), some (zi w)] [] h Q := by
  rw [m_many hi hm iv w]
  refine br_mo (fun e => ?_) (fun e => ?_) (oc_key (tr_many S w))
  · have e : oc (tr_many S w) = 0 := e
    rw [xs, xv, if_pos e, if_pos e, e] at kk
    exact kk.tw1 hi hm
  · have e : oc (tr_many S w) = 1 := e
    rw [xs, xv, if_neg (by omega), if_neg (by omega), e] at kk
    exact kk.tw2 hi hm
theorem r_right (hi : Ij a) (hm : RepM a S h) (iv : Inv S) (rc : gC h + 80 ≤ MXC) (rs : gS h + 5600 ≤ MXS) (u : Int) (kk : MK a (xs (tr_right S u) (S) S) h Q (zi (xv (tr_right S u) (S 1 u 0))) (oc (tr_right S u))) :
    WP 125 0 [some (zr (some (a 100 0))), some (zi u)] [] h Q := by
  rw [m_right hi hm iv u]
  refine br_mo (fun e => ?_) (fun e => ?_) (oc_key (tr_right S u))
  · have e : oc (tr_right S u) = 0 := e
    rw [xs, xv, if_pos e, if_pos e, e] at kk
    exact kk.tw1 hi hm
  · have e : oc (tr_right S u) = 1 := e
    rw [xs, xv, if_neg (by omega), if_neg (by omega), e] at kk
    exact kk.tw2 hi hm
theorem r_ofNote (hi : Ij a) (hm : RepM a S h) (iv : Inv S) (rc : gC h + 80 ≤ MXC) (rs : gS h + 5600 ≤ MXS) (k w : Int) (kk : MK a (xs (tr_ofNote S k w) (S) S) h Q (zi (xv (tr_ofNote S k w) (OF S k w))) (oc (tr_ofNote S k w))) :
    WP 129 0 [some (zr (some (a 100 0))), some (zi k), some (zi w)] [] h Q := by
  rw [m_ofNote hi hm iv k w]
  refine br_mo (fun e => br_mo (fun e => ?_) (fun e => ?_) e) (fun e => ?_) (oc_key (tr_ofNote S k w))
  · have e : oc (tr_ofNote S k w) = 0 := e
    rw [xs, xv, if_pos e, if_pos e, e] at kk
    exact kk.tw1 hi hm
  · have e : oc (tr_ofNote S k w) = 2 := e
    rw [xs, xv, if_neg (by omega), if_neg (by omega), e] at kk
    exact kk.tw2 hi hm
  · have e : oc (tr_ofNote S k w) = 1 := e
    rw [xs, xv, if_neg (by omega), if_neg (by omega), e] at kk
    exact kk.tw2 hi hm
theorem r_quote (hi : Ij a) (hm : RepM a S h) (iv : Inv S) (rc : gC h + 80 ≤ MXC) (rs : gS h + 5600 ≤ MXS) (k p : Int) (kk : MK a (xs (tr_quote S k p) (S) S) h Q (zi (xv (tr_quote S k p) (@ite Int (0 ≤ p ∧ p < S 19 (S 11 k 0) 0) (Classical.propDecidable _) (S 20 (S 11 k 0) p) (-1)))) (oc (tr_quote S k p))) :
    WP 130 0 [some (zr (some (a 100 0))), some (zi k), some (zi p), none] [] h Q := by
  rw [m_quote hi hm iv k p]
  refine br_mo (fun e => ?_) (fun e => ?_) (oc_key (tr_quote S k p))
  · have e : oc (tr_quote S k p) = 0 := e
    rw [xs, xv, if_pos e, if_pos e, e] at kk
    exact kk.tw1 hi hm
  · have e : oc (tr_quote S k p) = 1 := e
    rw [xs, xv, if_neg (by omega), if_neg (by omega), e] at kk
    exact kk.tw2 hi hm
theorem r_sees (hi : Ij a) (hm : RepM a S h) (iv : Inv S) (rc : gC h + 80 ≤ MXC) (rs : gS h + 5600 ≤ MXS) (u k : Int) (kk : MK a (xs (tr_sees S u k) (S) S) h Q (zi (xv (tr_sees S u k) (b2i (SE S u (S 1 u 0) (S 11 k 0))))) (oc (tr_sees S u k))) :
    WP 131 0 [some (zr (some (a 100 0))), some (zi u), some (zi k)] [] h Q := by
  rw [m_sees hi hm iv u k, ← brp]
  refine br_mo (fun e => br_mo (fun e => ?_) (fun e => ?_) e) (fun e => ?_) (oc_key (tr_sees S u k))
  · have e : oc (tr_sees S u k) = 0 := e
    rw [xs, xv, if_pos e, if_pos e, e] at kk
    exact kk.tw1 hi hm
  · have e : oc (tr_sees S u k) = 1 := e
    rw [xs, xv, if_neg (by omega), if_neg (by omega), e] at kk
    exact kk.tw2 hi hm
  · have e : oc (tr_sees S u k) = 1 := e
    rw [xs, xv, if_neg (by omega), if_neg (by omega), e] at kk
    exact kk.tw2 hi hm
theorem r_thread (hi : Ij a) (hm : RepM a S h) (iv : Inv S) (rc : gC h + 80 ≤ MXC) (rs : gS h + 5600 ≤ MXS) (k p : Int) (kk : MK a (xs (tr_thread S k p) (S) S) h Q (zi (xv (tr_thread S k p) (TH S (S 11 k 0) p))) (oc (tr_thread S k p))) :
    WP 135 0 [some (zr (some (a 100 0))), some (zi k), some (zi p)] [] h Q := by
  have key : br _ _ _ := oc_key (tr_thread S k p)
  refine m_thread hi hm iv k p (fun c => ?_) (fun c => ?_)
  · have e := key.1 c
    have e : oc (tr_thread S k p) = 0 := e
    rw [xs, xv, if_pos e, if_pos e, e] at kk
    exact kk
  · have e := key.2 c
    have e : oc (tr_thread S k p) = 1 := e
    rw [xs, xv, if_neg (by omega), if_neg (by omega), e] at kk
    exact kk
theorem r_over (hi : Ij a) (hm : RepM a S h) (iv : Inv S) (rc : gC h + 80 ≤ MXC) (rs : gS h + 5600 ≤ MXS) (u p : Int) (kk : MK a (xs (tr_over S u p) (S) S) h Q (zi (xv (tr_over S u p) (cn (OV S u p) (S 7 0 0).toNat 0))) (oc (tr_over S u p))) :
    WP 137 0 [some (zr (some (a 100 0))), some (zi u), some (zi p)] [] h Q := by
  rw [m_over hi hm iv u p]
  refine br_mo (fun e => ?_) (fun e => ?_) (oc_key (tr_over S u p))
  · have e : oc (tr_over S u p) = 0 := e
    rw [xs, xv, if_pos e, if_pos e, e] at kk
    exact kk.tw1 hi hm
  · have e : oc (tr_over S u p) = 1 := e
    rw [xs, xv, if_neg (by omega), if_neg (by omega), e] at kk
    exact kk.tw2 hi hm
theorem r_export (hi : Ij a) (hm : RepM a S h) (iv : Inv S) (rc : gC h + 80 ≤ MXC) (rs : gS h + 5600 ≤ MXS) (u al : Int) (kk : MK a (xs (tr_export S u al) (Sexp S u al) S) h Q (zi (xv (tr_export S u al) ((xpR S u al).1))) (oc (tr_export S u al))) :
    WP 139 0 [some (zr (some (a 100 0))), some (zi u), some (zi al), none, none, none, none, none, none, none] [] h Q := by
  refine m_export hi hm iv (by omega) (by omega) u al ?_
  refine br_mo (fun e => ?_) (fun e => ?_) (oc_key (tr_export S u al))
  · have e : oc (tr_export S u al) = 0 := e
    rw [xs, xv, if_pos e, if_pos e, e] at kk
    exact kk
  · have e : oc (tr_export S u al) = 1 := e
    rw [xs, xv, if_neg (by omega), if_neg (by omega), e] at kk
    exact kk
theorem r_exported (hi : Ij a) (hm : RepM a S h) (iv : Inv S) (rc : gC h + 80 ≤ MXC) (rs : gS h + 5600 ≤ MXS) (p w : Int) (kk : MK a (xs (tr_exported S p w) (S) S) h Q (zi (xv (tr_exported S p w) (S 22 p w))) (oc (tr_exported S p w))) :
    WP 140 0 [some (zr (some (a 100 0))), some (zi p), some (zi w)] [] h Q := by
  rw [m_exported hi hm iv p w]
  refine br_mo (fun e => br_mo (fun e => ?_) (fun e => ?_) e) (fun e => ?_) (oc_key (tr_exported S p w))
  · have e : oc (tr_exported S p w) = 0 := e
    rw [xs, xv, if_pos e, if_pos e, e] at kk
    exact kk.tw1 hi hm
  · have e : oc (tr_exported S p w) = 2 := e
    rw [xs, xv, if_neg (by omega), if_neg (by omega), e] at kk
    exact kk.tw2 hi hm
  · have e : oc (tr_exported S p w) = 1 := e
    rw [xs, xv, if_neg (by omega), if_neg (by omega), e] at kk
    exact kk.tw2 hi hm
theorem r_lostBy (hi : Ij a) (hm : RepM a S h) (iv : Inv S) (rc : gC h + 80 ≤ MXC) (rs : gS h + 5600 ≤ MXS) (p m : Int) (kk : MK a (xs (tr_lostBy S p m) (S) S) h Q (zi (xv (tr_lostBy S p m) (cn (LB S p m) (S 7 0 0).toNat 0))) (oc (tr_lostBy S p m))) :
    WP 142 0 [some (zr (some (a 100 0))), some (zi p), some (zi m), none, none] [] h Q := by
  rw [m_lostBy hi hm iv p m]
  refine br_mo (fun e => br_mo (fun e => ?_) (fun e => ?_) e) (fun e => ?_) (oc_key (tr_lostBy S p m))
  · have e : oc (tr_lostBy S p m) = 0 := e
    rw [xs, xv, if_pos e, if_pos e, e] at kk
    exact kk.tw1 hi hm
  · have e : oc (tr_lostBy S p m) = 2 := e
    rw [xs, xv, if_neg (by omega), if_neg (by omega), e] at kk
    exact kk.tw2 hi hm
  · have e : oc (tr_lostBy S p m) = 1 := e
    rw [xs, xv, if_neg (by omega), if_neg (by omega), e] at kk
    exact kk.tw2 hi hm
theorem r_wouldHeal (hi : Ij a) (hm : RepM a S h) (iv : Inv S) (rc : gC h + 80 ≤ MXC) (rs : gS h + 5600 ≤ MXS) (k : Int) (kk : MK a (xs (tr_wouldHeal S k) (S) S) h Q (zi (xv (tr_wouldHeal S k) (FD S (S 11 k 0)))) (oc (tr_wouldHeal S k))) :
    WP 143 0 [some (zr (some (a 100 0))), some (zi k)] [] h Q := by
  rw [m_wouldHeal hi hm iv k]
  refine br_mo (fun e => ?_) (fun e => ?_) (oc_key (tr_wouldHeal S k))
  · have e : oc (tr_wouldHeal S k) = 0 := e
    rw [xs, xv, if_pos e, if_pos e, e] at kk
    exact kk.tw1 hi hm
  · have e : oc (tr_wouldHeal S k) = 1 := e
    rw [xs, xv, if_neg (by omega), if_neg (by omega), e] at kk
    exact kk.tw2 hi hm
theorem r_wouldSee (hi : Ij a) (hm : RepM a S h) (iv : Inv S) (rc : gC h + 80 ≤ MXC) (rs : gS h + 5600 ≤ MXS) (u r : Int) (kk : MK a (xs (tr_wouldSee S u r) (S) S) h Q (zi (xv (tr_wouldSee S u r) (cn (WS S u r) (S 7 0 0).toNat 0))) (oc (tr_wouldSee S u r))) :
    WP 145 0 [some (zr (some (a 100 0))), some (zi u), some (zi r)] [] h Q := by
  rw [m_wouldSee hi hm iv u r]
  refine br_mo (fun e => br_mo (fun e => ?_) (fun e => ?_) e) (fun e => ?_) (oc_key (tr_wouldSee S u r))
  · have e : oc (tr_wouldSee S u r) = 0 := e
    rw [xs, xv, if_pos e, if_pos e, e] at kk
    exact kk.tw1 hi hm
  · have e : oc (tr_wouldSee S u r) = 2 := e
    rw [xs, xv, if_neg (by omega), if_neg (by omega), e] at kk
    exact kk.tw2 hi hm
  · have e : oc (tr_wouldSee S u r) = 1 := e
    rw [xs, xv, if_neg (by omega), if_neg (by omega), e] at kk
    exact kk.tw2 hi hm
end
