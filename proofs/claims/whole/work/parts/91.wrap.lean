/-! THE LAW'S CALLS OF THE CLASS -/
def tr_user (S : St) (x : Int) : List (Prop × Int) := [(0 ≤ x ∧ x ≤ 4, 1), (S 0 0 0 < 6, 2)]
def tr_setRight (S : St) (w u x : Int) : List (Prop × Int) := [(0 ≤ w ∧ w < S 0 0 0, 1), (0 ≤ u ∧ u < S 0 0 0, 1), (0 ≤ x ∧ x ≤ 4, 2), (S 1 w 0 = 4, 3)]
def tr_insert (S : St) (u p n s : Int) : List (Prop × Int) := [(0 ≤ u ∧ u < S 0 0 0, 1), (0 ≤ p ∧ p ≤ S 3 (S 2 0 0) 0, 1), ((1 ≤ n ∧ n ≤ 40) ∧ 0 ≤ s ∧ s ≤ 25, 2), (3 ≤ S 1 u 0 ∧ S 3 (S 2 0 0) 0 + n ≤ 200 ∧ S 2 0 0 < 60, 3)]
def tr_delete (S : St) (u p n : Int) : List (Prop × Int) := [(0 ≤ u ∧ u < S 0 0 0, 1), (0 ≤ p ∧ p < S 3 (S 2 0 0) 0, 1), (1 ≤ n ∧ n ≤ S 3 (S 2 0 0) 0 - p, 2), (3 ≤ S 1 u 0 ∧ S 2 0 0 < 60, 3)]
def tr_sign (S : St) (v p : Int) : List (Prop × Int) := [(0 ≤ v ∧ v ≤ S 2 0 0, 1)]
def tr_now (S : St) (v p : Int) : List (Prop × Int) := [(0 ≤ v ∧ v ≤ S 2 0 0, 1), (0 ≤ p ∧ p < S 3 v 0, 1)]
def tr_note (S : St) (u f t v c : Int) : List (Prop × Int) := [(0 ≤ u ∧ u < S 0 0 0, 1), ((0 ≤ f ∧ f < t ∧ t ≤ S 3 (S 2 0 0) 0) ∧ (0 ≤ v ∧ v ≤ 2) ∧ 0 ≤ c ∧ c ≤ 999, 2), (2 ≤ S 1 u 0 ∧ S 7 0 0 < 60, 3)]
def tr_reply (S : St) (u q c : Int) : List (Prop × Int) := [(0 ≤ u ∧ u < S 0 0 0, 1), (nt S q ∧ S 12 q 0 ≠ 2, 1), (0 ≤ c ∧ c ≤ 999, 2), ((2 ≤ S 1 u 0 ∧ SE S u (S 1 u 0) (S 11 q 0)) ∧ S 12 q 0 = 0 ∧ S 7 0 0 < 60, 3)]
def tr_settle (S : St) (u k x : Int) : List (Prop × Int) := [(0 ≤ u ∧ u < S 0 0 0, 1), (nt S k ∧ S 12 k 0 ≠ 2, 1), ((S 8 (S 11 k 0) 0 = u ∨ 3 ≤ S 1 u 0) ∧ SE S u (S 1 u 0) (S 11 k 0), 2)]
def tr_remove (S : St) (u k : Int) : List (Prop × Int) := [(0 ≤ u ∧ u < S 0 0 0, 1), (nt S k ∧ S 12 k 0 ≠ 2, 1), (((S 8 k 0 = u ∨ S 1 u 0 = 4) ∧ SE S u (S 1 u 0) (S 11 k 0)) ∧ S 12 k 0 = 0, 2)]
def tr_propose (S : St) (u k n s : Int) : List (Prop × Int) := [(0 ≤ u ∧ u < S 0 0 0, 1), (nt S k ∧ S 12 k 0 ≠ 2, 1), (S 11 k 0 = k ∧ (0 ≤ n ∧ n ≤ 40) ∧ 0 ≤ s ∧ s ≤ 25, 2), ((2 ≤ S 1 u 0 ∧ SE S u (S 1 u 0) (S 11 k 0)) ∧ S 12 k 0 = 0, 3)]
def tr_take (S : St) (u k : Int) : List (Prop × Int) := [(0 ≤ u ∧ u < S 0 0 0, 1), (nt S k ∧ S 12 k 0 ≠ 2, 1), (S 11 k 0 = k, 2), ((3 ≤ S 1 u 0 ∧ SE S u (S 1 u 0) (S 11 k 0)) ∧ cnT S k, 3)]
def tr_many (S : St) (w : Int) : List (Prop × Int) := [(0 ≤ w ∧ w ≤ 4, 1)]
def tr_right (S : St) (u : Int) : List (Prop × Int) := [(0 ≤ u ∧ u < S 0 0 0, 1)]
def tr_ofNote (S : St) (k w : Int) : List (Prop × Int) := [(nt S k ∧ S 12 k 0 ≠ 2, 1), (0 ≤ w ∧ w ≤ 10, 2)]
def tr_quote (S : St) (k p : Int) : List (Prop × Int) := [(nt S k ∧ S 12 k 0 ≠ 2, 1)]
def tr_sees (S : St) (u k : Int) : List (Prop × Int) := [(0 ≤ u ∧ u < S 0 0 0, 1), (nt S k ∧ S 12 k 0 ≠ 2, 1)]
def tr_thread (S : St) (k p : Int) : List (Prop × Int) := [(nt S k ∧ S 12 k 0 ≠ 2, 1)]
def tr_over (S : St) (u p : Int) : List (Prop × Int) := [(0 ≤ u ∧ u < S 0 0 0, 1)]
def tr_export (S : St) (u al : Int) : List (Prop × Int) := [(0 ≤ u ∧ u < S 0 0 0, 1)]
def tr_exported (S : St) (p w : Int) : List (Prop × Int) := [(0 ≤ p ∧ p < S 21 0 0, 1), (0 ≤ w ∧ w ≤ 3, 2)]
def tr_lostBy (S : St) (p m : Int) : List (Prop × Int) := [(0 ≤ p ∧ p < S 3 (S 2 0 0) 0, 1), (1 ≤ m ∧ m ≤ S 3 (S 2 0 0) 0 - p, 2)]
def tr_wouldHeal (S : St) (k : Int) : List (Prop × Int) := [(nt S k ∧ S 12 k 0 ≠ 2, 1)]
def tr_wouldSee (S : St) (u r : Int) : List (Prop × Int) := [(0 ≤ u ∧ u < S 0 0 0, 1), (0 ≤ r ∧ r ≤ 4, 2)]
section
variable {L : Int} {sc : Int → Int} {a : Na} {S : St} {h : Zh} {Q : Zp}
theorem w_user (bg : BG L sc a S S h) (iv : Inv S) (rc : gC h + 100 ≤ MXC) (rs : gS h + 6000 ≤ MXS) (x : Int) (kk : WK L sc a (xs (tr_user S x) (Suser S x) S) S h Q (oc (tr_user S x)) (Int64.ofInt (S 0 0 0))) :
    WP 147 0 [some (zr (some (a 0 0))), some (zi x), some (zr (some (a 200 0))), none] [] h Q := by
  obtain ⟨hi, hr, hm, o⟩ := id bg
  rw [b_147_0]
  refine ⟨(kd_some _ _ _).mpr hr.c0, ?_⟩
  rw [c_user hi hr iv x]
  refine br_mo (fun e => br_mo (fun e => ?_) (fun e => ?_) e) (fun e => ?_) (oc_key (tr_user S x))
  · have e : oc (tr_user S x) = 0 := e
    rw [xs, if_pos e, e] at kk
    simp only [kont_v, Nat.reduceAdd, b_147_7, b_147_9, b_147_12, b_147_15, b_147_18, ad_some]
    exact lf_ok kk bg iv ((hr.wRight hi _ _).wUsers hi _) (ec_II hi (by omega) (by omega))
  · have e : oc (tr_user S x) = 2 := e
    rw [xs, if_neg (by omega), e] at kk
    refine ⟨⟨by omega, by omega⟩, fun q => ?_⟩
    show WP 147 15 _ [zr (some q)] (tk h) Q
    rw [b_147_15]
    exact lf_ex kk bg (by omega)
  · have e : oc (tr_user S x) = 1 := e
    rw [xs, if_neg (by omega), e] at kk
    refine ⟨⟨by omega, by omega⟩, fun q => ?_⟩
    show WP 147 12 _ [zr (some q)] (tk h) Q
    rw [b_147_12]
    exact lf_ex kk bg (by omega)
theorem w_setRight (bg : BG L sc a S S h) (iv : Inv S) (rc : gC h + 100 ≤ MXC) (rs : gS h + 6000 ≤ MXS) (w u x : Int) (kk : WK L sc a (xs (tr_setRight S w u x) (su S 1 u 0 x) S) S h Q (oc (tr_setRight S w u x)) (Int64.ofInt (S 1 u 0))) :
    WP 148 0 [some (zr (some (a 0 0))), some (zi w), some (zi u), some (zi x), some (zr (some (a 200 0))), none] [] h Q := by
  obtain ⟨hi, hr, hm, o⟩ := id bg
  rw [b_148_0]
  refine ⟨(kd_some _ _ _).mpr hr.c0, ?_⟩
  rw [c_setRight hi hr iv w u x]
  refine br_mo (fun e => br_mo (fun e => br_mo (fun e => br_mo (fun e => ?_) (fun e => ?_) e) (fun e => ?_) e) (fun e => ?_) e) (fun e => ?_) (oc_key (tr_setRight S w u x))
  · have e : oc (tr_setRight S w u x) = 0 := e
    rw [xs, if_pos e, e] at kk
    simp only [kont_v, Nat.reduceAdd, b_148_10, b_148_12, b_148_15, b_148_19, b_148_23, b_148_27, ad_some]
    exact lf_ok kk bg iv (hr.wRight hi _ _) (ec_I hi (by omega))
  · have e : oc (tr_setRight S w u x) = 3 := e
    rw [xs, if_neg (by omega), e] at kk
    refine ⟨⟨by omega, by omega⟩, fun q => ?_⟩
    show WP 148 23 _ [zr (some q)] (tk h) Q
    rw [b_148_23]
    exact lf_ex kk bg (by omega)
  · have e : oc (tr_setRight S w u x) = 2 := e
    rw [xs, if_neg (by omega), e] at kk
    refine ⟨⟨by omega, by omega⟩, fun q => ?_⟩
    show WP 148 19 _ [zr (some q)] (tk h) Q
    rw [b_148_19]
    exact lf_ex kk bg (by omega)
  · have e : oc (tr_setRight S w u x) = 1 := e
    rw [xs, if_neg (by omega), e] at kk
    refine ⟨⟨by omega, by omega⟩, fun q => ?_⟩
    show WP 148 15 _ [zr (some q)] (tk h) Q
    rw [b_148_15]
    exact lf_ex kk bg (by omega)
  · have e : oc (tr_setRight S w u x) = 1 := e
    rw [xs, if_neg (by omega), e] at kk
    refine ⟨⟨by omega, by omega⟩, fun q => ?_⟩
    show WP 148 15 _ [zr (some q)] (tk h) Q
    rw [b_148_15]
    exact lf_ex kk bg (by omega)
theorem w_insert (bg : BG L sc a S S h) (iv : Inv S) (rc : gC h + 100 ≤ MXC) (rs : gS h + 6000 ≤ MXS) (u p n s : Int) (kk : WK L sc a (xs (tr_insert S u p n s) (Sput S p n s) S) S h Q (oc (tr_insert S u p n s)) (Int64.ofInt (S 3 (S 2 0 0) 0 + n))) :
    WP 149 0 [some (zr (some (a 0 0))), some (zi u), some (zi p), some (zi n), some (zi s), some (zr (some (a 200 0))), none] [] h Q := by
  obtain ⟨hi, hr, hm, o⟩ := id bg
  rw [b_149_0]
  refine ⟨(kd_some _ _ _).mpr hr.c0, ?_⟩
  refine c_insert hi hr iv u p n s ?_
  refine br_mo (fun e => br_mo (fun e => br_mo (fun e => br_mo (fun e => ?_) (fun e => ?_) e) (fun e => ?_) e) (fun e => ?_) e) (fun e => ?_) (oc_key (tr_insert S u p n s))
  · have e : oc (tr_insert S u p n s) = 0 := e
    rw [xs, if_pos e, e] at kk
    intro b g hr2 ec
    simp only [kont_v, Nat.reduceAdd, b_149_12, b_149_14, b_149_17, b_149_21, b_149_25, b_149_29, ad_some]
    exact lf_ok kk bg iv hr2 ec
  · have e : oc (tr_insert S u p n s) = 3 := e
    rw [xs, if_neg (by omega), e] at kk
    refine ⟨⟨by omega, by omega⟩, fun q => ?_⟩
    show WP 149 25 _ [zr (some q)] (tk h) Q
    rw [b_149_25]
    exact lf_ex kk bg (by omega)
  · have e : oc (tr_insert S u p n s) = 2 := e
    rw [xs, if_neg (by omega), e] at kk
    refine ⟨⟨by omega, by omega⟩, fun q => ?_⟩
    show WP 149 21 _ [zr (some q)] (tk h) Q
    rw [b_149_21]
    exact lf_ex kk bg (by omega)
  · have e : oc (tr_insert S u p n s) = 1 := e
    rw [xs, if_neg (by omega), e] at kk
    refine ⟨⟨by omega, by omega⟩, fun q => ?_⟩
    show WP 149 17 _ [zr (some q)] (tk h) Q
    rw [b_149_17]
    exact lf_ex kk bg (by omega)
  · have e : oc (tr_insert S u p n s) = 1 := e
    rw [xs, if_neg (by omega), e] at kk
    refine ⟨⟨by omega, by omega⟩, fun q => ?_⟩
    show WP 149 17 _ [zr (some q)] (tk h) Q
    rw [b_149_17]
    exact lf_ex kk bg (by omega)
theorem w_delete (bg : BG L sc a S S h) (iv : Inv S) (rc : gC h + 100 ≤ MXC) (rs : gS h + 6000 ≤ MXS) (u p n : Int) (kk : WK L sc a (xs (tr_delete S u p n) (Scut S p n) S) S h Q (oc (tr_delete S u p n)) (Int64.ofInt (S 3 (S 2 0 0) 0 - n))) :
    WP 150 0 [some (zr (some (a 0 0))), some (zi u), some (zi p), some (zi n), some (zr (some (a 200 0))), none] [] h Q := by
  obtain ⟨hi, hr, hm, o⟩ := id bg
  rw [b_150_0]
  refine ⟨(kd_some _ _ _).mpr hr.c0, ?_⟩
  refine c_delete hi hr iv u p n ?_
  refine br_mo (fun e => br_mo (fun e => br_mo (fun e => br_mo (fun e => ?_) (fun e => ?_) e) (fun e => ?_) e) (fun e => ?_) e) (fun e => ?_) (oc_key (tr_delete S u p n))
  · have e : oc (tr_delete S u p n) = 0 := e
    rw [xs, if_pos e, e] at kk
    intro b g hr2 ec
    simp only [kont_v, Nat.reduceAdd, b_150_10, b_150_12, b_150_15, b_150_19, b_150_23, b_150_27, ad_some]
    exact lf_ok kk bg iv hr2 ec
  · have e : oc (tr_delete S u p n) = 3 := e
    rw [xs, if_neg (by omega), e] at kk
    refine ⟨⟨by omega, by omega⟩, fun q => ?_⟩
    show WP 150 23 _ [zr (some q)] (tk h) Q
    rw [b_150_23]
    exact lf_ex kk bg (by omega)
  · have e : oc (tr_delete S u p n) = 2 := e
    rw [xs, if_neg (by omega), e] at kk
    refine ⟨⟨by omega, by omega⟩, fun q => ?_⟩
    show WP 150 19 _ [zr (some q)] (tk h) Q
    rw [b_150_19]
    exact lf_ex kk bg (by omega)
  · have e : oc (tr_delete S u p n) = 1 := e
    rw [xs, if_neg (by omega), e] at kk
    refine ⟨⟨by omega, by omega⟩, fun q => ?_⟩
    show WP 150 15 _ [zr (some q)] (tk h) Q
    rw [b_150_15]
    exact lf_ex kk bg (by omega)
  · have e : oc (tr_delete S u p n) = 1 := e
    rw [xs, if_neg (by omega), e] at kk
    refine ⟨⟨by omega, by omega⟩, fun q => ?_⟩
    show WP 150 15 _ [zr (some q)] (tk h) Q
    rw [b_150_15]
    exact lf_ex kk bg (by omega)
theorem w_sign (bg : BG L sc a S S h) (iv : Inv S) (rc : gC h + 100 ≤ MXC) (rs : gS h + 6000 ≤ MXS) (v p : Int) (kk : WK L sc a (xs (tr_sign S v p) (S) S) S h Q (oc (tr_sign S v p)) (Int64.ofInt (sg S v p))) :
    WP 151 0 [some (zr (some (a 0 0))), some (zi v), some (zi p), some (zr (some (a 200 0))), none] [] h Q := by
  obtain ⟨hi, hr, hm, o⟩ := id bg
  rw [b_151_0]
  refine ⟨(kd_some _ _ _).mpr hr.c0, ?_⟩
  rw [c_sign hr iv v p]
  refine br_mo (fun e => ?_) (fun e => ?_) (oc_key (tr_sign S v p))
  · have e : oc (tr_sign S v p) = 0 := e
    rw [xs, if_pos e, e] at kk
    simp only [kont_v, Nat.reduceAdd, b_151_8, b_151_10, b_151_13, b_151_17, ad_some]
    exact lf_ok kk bg iv (hr) (ec_0 hi)
  · have e : oc (tr_sign S v p) = 1 := e
    rw [xs, if_neg (by omega), e] at kk
    refine ⟨⟨by omega, by omega⟩, fun q => ?_⟩
    show WP 151 13 _ [zr (some q)] (tk h) Q
    rw [b_151_13]
    exact lf_ex kk bg (by omega)
theorem w_now (bg : BG L sc a S S h) (iv : Inv S) (rc : gC h + 100 ≤ MXC) (rs : gS h + 6000 ≤ MXS) (v p : Int) (kk : WK L sc a (xs (tr_now S v p) (S) S) S h Q (oc (tr_now S v p)) (Int64.ofInt (nw9 S v p))) :
    WP 152 0 [some (zr (some (a 0 0))), some (zi v), some (zi p), some (zr (some (a 200 0))), none] [] h Q := by
  obtain ⟨hi, hr, hm, o⟩ := id bg
  rw [b_152_0]
  refine ⟨(kd_some _ _ _).mpr hr.c0, ?_⟩
  rw [c_now hr iv v p]
  refine br_mo (fun e => br_mo (fun e => ?_) (fun e => ?_) e) (fun e => ?_) (oc_key (tr_now S v p))
  · have e : oc (tr_now S v p) = 0 := e
    rw [xs, if_pos e, e] at kk
    simp only [kont_v, Nat.reduceAdd, b_152_8, b_152_10, b_152_13, b_152_17, ad_some]
    exact lf_ok kk bg iv (hr) (ec_0 hi)
  · have e : oc (tr_now S v p) = 1 := e
    rw [xs, if_neg (by omega), e] at kk
    refine ⟨⟨by omega, by omega⟩, fun q => ?_⟩
    show WP 152 13 _ [zr (some q)] (tk h) Q
    rw [b_152_13]
    exact lf_ex kk bg (by omega)
  · have e : oc (tr_now S v p) = 1 := e
    rw [xs, if_neg (by omega), e] at kk
    refine ⟨⟨by omega, by omega⟩, fun q => ?_⟩
    show WP 152 13 _ [zr (some q)] (tk h) Q
    rw [b_152_13]
    exact lf_ex kk bg (by omega)
theorem w_note (bg : BG L sc a S S h) (iv : Inv S) (rc : gC h + 100 ≤ MXC) (rs : gS h + 6000 ≤ MXS) (u f t v c : Int) (kk : WK L sc a (xs (tr_note S u f t v c) (Snote S u f t v c) S) S h Q (oc (tr_note S u f t v c)) (Int64.ofInt (S 7 0 0))) :
    WP 153 0 [some (zr (some (a 0 0))), some (zi u), some (zi f), some (zi t), some (zi v), some (zi c), some (zr (some (a 200 0))), none] [] h Q := by
  obtain ⟨hi, hr, hm, o⟩ := id bg
  rw [b_153_0]
  refine ⟨(kd_some _ _ _).mpr hr.c0, ?_⟩
  refine c_note hi hr iv (by omega) (by omega) u f t v c ?_
  refine br_mo (fun e => br_mo (fun e => br_mo (fun e => ?_) (fun e => ?_) e) (fun e => ?_) e) (fun e => ?_) (oc_key (tr_note S u f t v c))
  · have e : oc (tr_note S u f t v c) = 0 := e
    rw [xs, if_pos e, e] at kk
    intro b g hr2 ec
    simp only [kont_v, Nat.reduceAdd, b_153_14, b_153_16, b_153_19, b_153_23, b_153_27, b_153_31, ad_some]
    exact lf_ok kk bg iv hr2 ec
  · have e : oc (tr_note S u f t v c) = 3 := e
    rw [xs, if_neg (by omega), e] at kk
    refine ⟨⟨by omega, by omega⟩, fun q => ?_⟩
    show WP 153 27 _ [zr (some q)] (tk h) Q
    rw [b_153_27]
    exact lf_ex kk bg (by omega)
  · have e : oc (tr_note S u f t v c) = 2 := e
    rw [xs, if_neg (by omega), e] at kk
    refine ⟨⟨by omega, by omega⟩, fun q => ?_⟩
    show WP 153 23 _ [zr (some q)] (tk h) Q
    rw [b_153_23]
    exact lf_ex kk bg (by omega)
  · have e : oc (tr_note S u f t v c) = 1 := e
    rw [xs, if_neg (by omega), e] at kk
    refine ⟨⟨by omega, by omega⟩, fun q => ?_⟩
    show WP 153 19 _ [zr (some q)] (tk h) Q
    rw [b_153_19]
    exact lf_ex kk bg (by omega)
theorem w_reply (bg : BG L sc a S S h) (iv : Inv S) (rc : gC h + 100 ≤ MXC) (rs : gS h + 6000 ≤ MXS) (u q c : Int) (kk : WK L sc a (xs (tr_reply S u q c) (Srep S u q c) S) S h Q (oc (tr_reply S u q c)) (Int64.ofInt (S 7 0 0))) :
    WP 154 0 [some (zr (some (a 0 0))), some (zi u), some (zi q), some (zi c), some (zr (some (a 200 0))), none] [] h Q := by
  obtain ⟨hi, hr, hm, o⟩ := id bg
  rw [b_154_0]
  refine ⟨(kd_some _ _ _).mpr hr.c0, ?_⟩
  refine c_reply hi hr iv (by omega) (by omega) u q c ?_
  refine br_mo (fun e => br_mo (fun e => br_mo (fun e => br_mo (fun e => ?_) (fun e => ?_) e) (fun e => ?_) e) (fun e => ?_) e) (fun e => ?_) (oc_key (tr_reply S u q c))
  · have e : oc (tr_reply S u q c) = 0 := e
    rw [xs, if_pos e, e] at kk
    intro b g hr2 ec
    simp only [kont_v, Nat.reduceAdd, b_154_10, b_154_12, b_154_15, b_154_19, b_154_23, b_154_27, ad_some]
    exact lf_ok kk bg iv hr2 ec
  · have e : oc (tr_reply S u q c) = 3 := e
    rw [xs, if_neg (by omega), e] at kk
    refine ⟨⟨by omega, by omega⟩, fun q => ?_⟩
    show WP 154 23 _ [zr (some q)] (tk h) Q
    rw [b_154_23]
    exact lf_ex kk bg (by omega)
  · have e : oc (tr_reply S u q c) = 2 := e
    rw [xs, if_neg (by omega), e] at kk
    refine ⟨⟨by omega, by omega⟩, fun q => ?_⟩
    show WP 154 19 _ [zr (some q)] (tk h) Q
    rw [b_154_19]
    exact lf_ex kk bg (by omega)
  · have e : oc (tr_reply S u q c) = 1 := e
    rw [xs, if_neg (by omega), e] at kk
    refine ⟨⟨by omega, by omega⟩, fun q => ?_⟩
    show WP 154 15 _ [zr (some q)] (tk h) Q
    rw [b_154_15]
    exact lf_ex kk bg (by omega)
  · have e : oc (tr_reply S u q c) = 1 := e
    rw [xs, if_neg (by omega), e] at kk
    refine ⟨⟨by omega, by omega⟩, fun q => ?_⟩
    show WP 154 15 _ [zr (some q)] (tk h) Q
    rw [b_154_15]
    exact lf_ex kk bg (by omega)
theorem w_settle (bg : BG L sc a S S h) (iv : Inv S) (rc : gC h + 100 ≤ MXC) (rs : gS h + 6000 ≤ MXS) (u k x : Int) (hx : x = 0 ∨ x = 1) (kk : WK L sc a (xs (tr_settle S u k x) (su S 18 (S 11 k 0) 0 x) S) S h Q (oc (tr_settle S u k x)) (if S 18 (S 11 k 0) 0 = 0 then 0 else 1)) :
    WP 155 0 [some (zr (some (a 0 0))), some (zi u), some (zi k), some (zi x), some (zr (some (a 200 0))), none] [] h Q := by
  obtain ⟨hi, hr, hm, o⟩ := id bg
  rw [b_155_0]
  refine ⟨(kd_some _ _ _).mpr hr.c0, ?_⟩
  rw [c_settle hi hr iv u k x hx]
  refine br_mo (fun e => br_mo (fun e => br_mo (fun e => ?_) (fun e => ?_) e) (fun e => ?_) e) (fun e => ?_) (oc_key (tr_settle S u k x))
  · have e : oc (tr_settle S u k x) = 0 := e
    rw [xs, if_pos e, e] at kk
    by_cases z : S 18 (S 11 k 0) 0 = 0
    · rw [if_pos z] at kk
      simp only [kont_v, Nat.reduceAdd, b_155_10, b_155_13, b_155_17, b_155_18, b_155_19, b_155_22, b_155_26, b_155_30, ad_some, brt z]
      exact lf_ok kk bg iv (hr.wSettled hi _ _) (ec_I hi (by omega))
    · rw [if_neg z] at kk
      simp only [kont_v, Nat.reduceAdd, b_155_10, b_155_13, b_155_17, b_155_18, b_155_19, b_155_22, b_155_26, b_155_30, ad_some, brf z]
      exact lf_ok kk bg iv (hr.wSettled hi _ _) (ec_I hi (by omega))
  · have e : oc (tr_settle S u k x) = 2 := e
    rw [xs, if_neg (by omega), e] at kk
    refine ⟨⟨by omega, by omega⟩, fun q => ?_⟩
    show WP 155 26 _ [zr (some q)] (tk h) Q
    rw [b_155_26]
    exact lf_ex kk bg (by omega)
  · have e : oc (tr_settle S u k x) = 1 := e
    rw [xs, if_neg (by omega), e] at kk
    refine ⟨⟨by omega, by omega⟩, fun q => ?_⟩
    show WP 155 22 _ [zr (some q)] (tk h) Q
    rw [b_155_22]
    exact lf_ex kk bg (by omega)
  · have e : oc (tr_settle S u k x) = 1 := e
    rw [xs, if_neg (by omega), e] at kk
    refine ⟨⟨by omega, by omega⟩, fun q => ?_⟩
    show WP 155 22 _ [zr (some q)] (tk h) Q
    rw [b_155_22]
    exact lf_ex kk bg (by omega)
theorem w_remove (bg : BG L sc a S S h) (iv : Inv S) (rc : gC h + 100 ≤ MXC) (rs : gS h + 6000 ≤ MXS) (u k : Int) (kk : WK L sc a (xs (tr_remove S u k) (Srem S k) S) S h Q (oc (tr_remove S u k)) (Int64.ofInt (Nrem S k))) :
    WP 156 0 [some (zr (some (a 0 0))), some (zi u), some (zi k), some (zr (some (a 200 0))), none] [] h Q := by
  obtain ⟨hi, hr, hm, o⟩ := id bg
  rw [b_156_0]
  refine ⟨(kd_some _ _ _).mpr hr.c0, ?_⟩
  refine c_remove hi hr iv u k ?_
  refine br_mo (fun e => br_mo (fun e => br_mo (fun e => ?_) (fun e => ?_) e) (fun e => ?_) e) (fun e => ?_) (oc_key (tr_remove S u k))
  · have e : oc (tr_remove S u k) = 0 := e
    rw [xs, if_pos e, e] at kk
    intro b g hr2 ec
    simp only [kont_v, Nat.reduceAdd, b_156_8, b_156_10, b_156_13, b_156_17, b_156_21, ad_some]
    exact lf_ok kk bg iv hr2 ec
  · have e : oc (tr_remove S u k) = 2 := e
    rw [xs, if_neg (by omega), e] at kk
    refine ⟨⟨by omega, by omega⟩, fun q => ?_⟩
    show WP 156 17 _ [zr (some q)] (tk h) Q
    rw [b_156_17]
    exact lf_ex kk bg (by omega)
  · have e : oc (tr_remove S u k) = 1 := e
    rw [xs, if_neg (by omega), e] at kk
    refine ⟨⟨by omega, by omega⟩, fun q => ?_⟩
    show WP 156 13 _ [zr (some q)] (tk h) Q
    rw [b_156_13]
    exact lf_ex kk bg (by omega)
  · have e : oc (tr_remove S u k) = 1 := e
    rw [xs, if_neg (by omega), e] at kk
    refine ⟨⟨by omega, by omega⟩, fun q => ?_⟩
    show WP 156 13 _ [zr (some q)] (tk h) Q
    rw [b_156_13]
    exact lf_ex kk bg (by omega)
theorem w_propose (bg : BG L sc a S S h) (iv : Inv S) (rc : gC h + 100 ≤ MXC) (rs : gS h + 6000 ≤ MXS) (u k n s : Int) (kk : WK L sc a (xs (tr_propose S u k n s) (su (su S 16 k 0 n) 17 k 0 s) S) S h Q (oc (tr_propose S u k n s)) (Int64.ofInt (k))) :
    WP 157 0 [some (zr (some (a 0 0))), some (zi u), some (zi k), some (zi n), some (zi s), some (zr (some (a 200 0))), none] [] h Q := by
  obtain ⟨hi, hr, hm, o⟩ := id bg
  rw [b_157_0]
  refine ⟨(kd_some _ _ _).mpr hr.c0, ?_⟩
  rw [c_propose hi hr iv u k n s]
  refine br_mo (fun e => br_mo (fun e => br_mo (fun e => br_mo (fun e => ?_) (fun e => ?_) e) (fun e => ?_) e) (fun e => ?_) e) (fun e => ?_) (oc_key (tr_propose S u k n s))
  · have e : oc (tr_propose S u k n s) = 0 := e
    rw [xs, if_pos e, e] at kk
    simp only [kont_v, Nat.reduceAdd, b_157_12, b_157_14, b_157_17, b_157_21, b_157_25, b_157_29, ad_some]
    exact lf_ok kk bg iv ((hr.wMany hi _ _).wFirst hi _ _) (ec_II hi (by omega) (by omega))
  · have e : oc (tr_propose S u k n s) = 3 := e
    rw [xs, if_neg (by omega), e] at kk
    refine ⟨⟨by omega, by omega⟩, fun q => ?_⟩
    show WP 157 25 _ [zr (some q)] (tk h) Q
    rw [b_157_25]
    exact lf_ex kk bg (by omega)
  · have e : oc (tr_propose S u k n s) = 2 := e
    rw [xs, if_neg (by omega), e] at kk
    refine ⟨⟨by omega, by omega⟩, fun q => ?_⟩
    show WP 157 21 _ [zr (some q)] (tk h) Q
    rw [b_157_21]
    exact lf_ex kk bg (by omega)
  · have e : oc (tr_propose S u k n s) = 1 := e
    rw [xs, if_neg (by omega), e] at kk
    refine ⟨⟨by omega, by omega⟩, fun q => ?_⟩
    show WP 157 17 _ [zr (some q)] (tk h) Q
    rw [b_157_17]
    exact lf_ex kk bg (by omega)
  · have e : oc (tr_propose S u k n s) = 1 := e
    rw [xs, if_neg (by omega), e] at kk
    refine ⟨⟨by omega, by omega⟩, fun q => ?_⟩
    show WP 157 17 _ [zr (some q)] (tk h) Q
    rw [b_157_17]
    exact lf_ex kk bg (by omega)
theorem w_take (bg : BG L sc a S S h) (iv : Inv S) (rc : gC h + 100 ≤ MXC) (rs : gS h + 6000 ≤ MXS) (u k : Int) (kk : WK L sc a (xs (tr_take S u k) (Stake S k) S) S h Q (oc (tr_take S u k)) (Int64.ofInt (S 3 (S 2 0 0) 0 + (S 16 k 0 - (S 14 k 0 - S 13 k 0))))) :
    WP 158 0 [some (zr (some (a 0 0))), some (zi u), some (zi k), some (zr (some (a 200 0))), none] [] h Q := by
  obtain ⟨hi, hr, hm, o⟩ := id bg
  rw [b_158_0]
  refine ⟨(kd_some _ _ _).mpr hr.c0, ?_⟩
  refine c_take hi hr iv u k ?_
  refine br_mo (fun e => br_mo (fun e => br_mo (fun e => br_mo (fun e => ?_) (fun e => ?_) e) (fun e => ?_) e) (fun e => ?_) e) (fun e => ?_) (oc_key (tr_take S u k))
  · have e : oc (tr_take S u k) = 0 := e
    rw [xs, if_pos e, e] at kk
    intro b g hr2 ec
    simp only [kont_v, Nat.reduceAdd, b_158_8, b_158_10, b_158_13, b_158_17, b_158_21, b_158_25, ad_some]
    exact lf_ok kk bg iv hr2 ec
  · have e : oc (tr_take S u k) = 3 := e
    rw [xs, if_neg (by omega), e] at kk
    refine ⟨⟨by omega, by omega⟩, fun q => ?_⟩
    show WP 158 21 _ [zr (some q)] (tk h) Q
    rw [b_158_21]
    exact lf_ex kk bg (by omega)
  · have e : oc (tr_take S u k) = 2 := e
    rw [xs, if_neg (by omega), e] at kk
    refine ⟨⟨by omega, by omega⟩, fun q => ?_⟩
    show WP 158 17 _ [zr (some q)] (tk h) Q
    rw [b_158_17]
    exact lf_ex kk bg (by omega)
  · have e : oc (tr_take S u k) = 1 := e
    rw [xs, if_neg (by omega), e] at kk
    refine ⟨⟨by omega, by omega⟩, fun q => ?_⟩
    show WP 158 13 _ [zr (some q)] (tk h) Q
    rw [b_158_13]
    exact lf_ex kk bg (by omega)
  · have e : oc (tr_take S u k) = 1 := e
    rw [xs, if_neg (by omega), e] at kk
    refine ⟨⟨by omega, by omega⟩, fun q => ?_⟩
    show WP 158 13 _ [zr (some q)] (tk h) Q
    rw [b_158_13]
    exact lf_ex kk bg (by omega)
theorem w_many (bg : BG L sc a S S h) (iv : Inv S) (rc : gC h + 100 ≤ MXC) (rs : gS h + 6000 ≤ MXS) (w : Int) (kk : WK L sc a (xs (tr_many S w) (S) S) S h Q (oc (tr_many S w)) (Int64.ofInt (MN S w))) :
    WP 159 0 [some (zr (some (a 0 0))), some (zi w), some (zr (some (a 200 0))), none] [] h Q := by
  obtain ⟨hi, hr, hm, o⟩ := id bg
  rw [b_159_0]
  refine ⟨(kd_some _ _ _).mpr hr.c0, ?_⟩
  rw [c_many hr iv w]
  refine br_mo (fun e => ?_) (fun e => ?_) (oc_key (tr_many S w))
  · have e : oc (tr_many S w) = 0 := e
    rw [xs, if_pos e, e] at kk
    simp only [kont_v, Nat.reduceAdd, b_159_7, b_159_9, b_159_12, b_159_15, ad_some]
    exact lf_ok kk bg iv (hr) (ec_0 hi)
  · have e : oc (tr_many S w) = 1 := e
    rw [xs, if_neg (by omega), e] at kk
    refine ⟨⟨by omega, by omega⟩, fun q => ?_⟩
    show WP 159 12 _ [zr (some q)] (tk h) Q
    rw [b_159_12]
    exact lf_ex kk bg (by omega)
theorem w_right (bg : BG L sc a S S h) (iv : Inv S) (rc : gC h + 100 ≤ MXC) (rs : gS h + 6000 ≤ MXS) (u : Int) (kk : WK L sc a (xs (tr_right S u) (S) S) S h Q (oc (tr_right S u)) (Int64.ofInt (S 1 u 0))) :
    WP 160 0 [some (zr (some (a 0 0))), some (zi u), some (zr (some (a 200 0))), none] [] h Q := by
  obtain ⟨hi, hr, hm, o⟩ := id bg
  rw [b_160_0]
  refine ⟨(kd_some _ _ _).mpr hr.c0, ?_⟩
  rw [c_right hr iv u]
  refine br_mo (fun e => ?_) (fun e => ?_) (oc_key (tr_right S u))
  · have e : oc (tr_right S u) = 0 := e
    rw [xs, if_pos e, e] at kk
    simp only [kont_v, Nat.reduceAdd, b_160_7, b_160_9, b_160_12, b_160_15, ad_some]
    exact lf_ok kk bg iv (hr) (ec_0 hi)
  · have e : oc (tr_right S u) = 1 := e
    rw [xs, if_neg (by omega), e] at kk
    refine ⟨⟨by omega, by omega⟩, fun q => ?_⟩
    show WP 160 12 _ [zr (some q)] (tk h) Q
    rw [b_160_12]
    exact lf_ex kk bg (by omega)
theorem w_ofNote (bg : BG L sc a S S h) (iv : Inv S) (rc : gC h + 100 ≤ MXC) (rs : gS h + 6000 ≤ MXS) (k w : Int) (kk : WK L sc a (xs (tr_ofNote S k w) (S) S) S h Q (oc (tr_ofNote S k w)) (Int64.ofInt (OF S k w))) :
    WP 161 0 [some (zr (some (a 0 0))), some (zi k), some (zi w), some (zr (some (a 200 0))), none] [] h Q := by
  obtain ⟨hi, hr, hm, o⟩ := id bg
  rw [b_161_0]
  refine ⟨(kd_some _ _ _).mpr hr.c0, ?_⟩
  rw [c_ofNote hr iv k w]
  refine br_mo (fun e => br_mo (fun e => ?_) (fun e => ?_) e) (fun e => ?_) (oc_key (tr_ofNote S k w))
  · have e : oc (tr_ofNote S k w) = 0 := e
    rw [xs, if_pos e, e] at kk
    simp only [kont_v, Nat.reduceAdd, b_161_8, b_161_10, b_161_13, b_161_17, b_161_21, ad_some]
    exact lf_ok kk bg iv (hr) (ec_0 hi)
  · have e : oc (tr_ofNote S k w) = 2 := e
    rw [xs, if_neg (by omega), e] at kk
    refine ⟨⟨by omega, by omega⟩, fun q => ?_⟩
    show WP 161 17 _ [zr (some q)] (tk h) Q
    rw [b_161_17]
    exact lf_ex kk bg (by omega)
  · have e : oc (tr_ofNote S k w) = 1 := e
    rw [xs, if_neg (by omega), e] at kk
    refine ⟨⟨by omega, by omega⟩, fun q => ?_⟩
    show WP 161 13 _ [zr (some q)] (tk h) Q
    rw [b_161_13]
    exact lf_ex kk bg (by omega)
theorem w_quote (bg : BG L sc a S S h) (iv : Inv S) (rc : gC h + 100 ≤ MXC) (rs : gS h + 6000 ≤ MXS) (k p : Int) (kk : WK L sc a (xs (tr_quote S k p) (S) S) S h Q (oc (tr_quote S k p)) (Int64.ofInt (@ite Int (0 ≤ p ∧ p < S 19 (S 11 k 0) 0) (Classical.propDecidable _) (S 20 (S 11 k 0) p) (-1)))) :
    WP 162 0 [some (zr (some (a 0 0))), some (zi k), some (zi p), some (zr (some (a 200 0))), none] [] h Q := by
  obtain ⟨hi, hr, hm, o⟩ := id bg
  rw [b_162_0]
  refine ⟨(kd_some _ _ _).mpr hr.c0, ?_⟩
  rw [c_quote hr iv k p]
  refine br_mo (fun e => ?_) (fun e => ?_) (oc_key (tr_quote S k p))
  · have e : oc (tr_quote S k p) = 0 := e
    rw [xs, if_pos e, e] at kk
    simp only [kont_v, Nat.reduceAdd, b_162_8, b_162_10, b_162_13, b_162_17, ad_some]
    exact lf_ok kk bg iv (hr) (ec_0 hi)
  · have e : oc (tr_quote S k p) = 1 := e
    rw [xs, if_neg (by omega), e] at kk
    refine ⟨⟨by omega, by omega⟩, fun q => ?_⟩
    show WP 162 13 _ [zr (some q)] (tk h) Q
    rw [b_162_13]
    exact lf_ex kk bg (by omega)
theorem w_sees (bg : BG L sc a S S h) (iv : Inv S) (rc : gC h + 100 ≤ MXC) (rs : gS h + 6000 ≤ MXS) (u k : Int) (kk : WK L sc a (xs (tr_sees S u k) (S) S) S h Q (oc (tr_sees S u k)) (if b2i (SE S u (S 1 u 0) (S 11 k 0)) = 0 then 0 else 1)) :
    WP 163 0 [some (zr (some (a 0 0))), some (zi u), some (zi k), some (zr (some (a 200 0))), none] [] h Q := by
  obtain ⟨hi, hr, hm, o⟩ := id bg
  rw [b_163_0]
  refine ⟨(kd_some _ _ _).mpr hr.c0, ?_⟩
  rw [c_sees hr iv u k]
  refine br_mo (fun e => br_mo (fun e => ?_) (fun e => ?_) e) (fun e => ?_) (oc_key (tr_sees S u k))
  · have e : oc (tr_sees S u k) = 0 := e
    rw [xs, if_pos e, e] at kk
    by_cases z : b2i (SE S u (S 1 u 0) (S 11 k 0)) = 0
    · rw [if_pos z] at kk
      simp only [kont_v, Nat.reduceAdd, b_163_8, b_163_11, b_163_15, b_163_16, b_163_17, b_163_20, b_163_24, ad_some, brt z]
      exact lf_ok kk bg iv (hr) (ec_0 hi)
    · rw [if_neg z] at kk
      simp only [kont_v, Nat.reduceAdd, b_163_8, b_163_11, b_163_15, b_163_16, b_163_17, b_163_20, b_163_24, ad_some, brf z]
      exact lf_ok kk bg iv (hr) (ec_0 hi)
  · have e : oc (tr_sees S u k) = 1 := e
    rw [xs, if_neg (by omega), e] at kk
    refine ⟨⟨by omega, by omega⟩, fun q => ?_⟩
    show WP 163 20 _ [zr (some q)] (tk h) Q
    rw [b_163_20]
    exact lf_ex kk bg (by omega)
  · have e : oc (tr_sees S u k) = 1 := e
    rw [xs, if_neg (by omega), e] at kk
    refine ⟨⟨by omega, by omega⟩, fun q => ?_⟩
    show WP 163 20 _ [zr (some q)] (tk h) Q
    rw [b_163_20]
    exact lf_ex kk bg (by omega)
theorem w_thread (bg : BG L sc a S S h) (iv : Inv S) (rc : gC h + 100 ≤ MXC) (rs : gS h + 6000 ≤ MXS) (k p : Int) (kk : WK L sc a (xs (tr_thread S k p) (S) S) S h Q (oc (tr_thread S k p)) (Int64.ofInt (TH S (S 11 k 0) p))) :
    WP 164 0 [some (zr (some (a 0 0))), some (zi k), some (zi p), some (zr (some (a 200 0))), none] [] h Q := by
  obtain ⟨hi, hr, hm, o⟩ := id bg
  rw [b_164_0]
  refine ⟨(kd_some _ _ _).mpr hr.c0, ?_⟩
  rw [c_thread hr iv k p]
  refine br_mo (fun e => ?_) (fun e => ?_) (oc_key (tr_thread S k p))
  · have e : oc (tr_thread S k p) = 0 := e
    rw [xs, if_pos e, e] at kk
    simp only [kont_v, Nat.reduceAdd, b_164_8, b_164_10, b_164_13, b_164_17, ad_some]
    exact lf_ok kk bg iv (hr) (ec_0 hi)
  · have e : oc (tr_thread S k p) = 1 := e
    rw [xs, if_neg (by omega), e] at kk
    refine ⟨⟨by omega, by omega⟩, fun q => ?_⟩
    show WP 164 13 _ [zr (some q)] (tk h) Q
    rw [b_164_13]
    exact lf_ex kk bg (by omega)
theorem w_over (bg : BG L sc a S S h) (iv : Inv S) (rc : gC h + 100 ≤ MXC) (rs : gS h + 6000 ≤ MXS) (u p : Int) (kk : WK L sc a (xs (tr_over S u p) (S) S) S h Q (oc (tr_over S u p)) (Int64.ofInt (cn (OV S u p) (S 7 0 0).toNat 0))) :
    WP 165 0 [some (zr (some (a 0 0))), some (zi u), some (zi p), some (zr (some (a 200 0))), none] [] h Q := by
  obtain ⟨hi, hr, hm, o⟩ := id bg
  rw [b_165_0]
  refine ⟨(kd_some _ _ _).mpr hr.c0, ?_⟩
  rw [c_over hr iv u p]
  refine br_mo (fun e => ?_) (fun e => ?_) (oc_key (tr_over S u p))
  · have e : oc (tr_over S u p) = 0 := e
    rw [xs, if_pos e, e] at kk
    simp only [kont_v, Nat.reduceAdd, b_165_8, b_165_10, b_165_13, b_165_17, ad_some]
    exact lf_ok kk bg iv (hr) (ec_0 hi)
  · have e : oc (tr_over S u p) = 1 := e
    rw [xs, if_neg (by omega), e] at kk
    refine ⟨⟨by omega, by omega⟩, fun q => ?_⟩
    show WP 165 13 _ [zr (some q)] (tk h) Q
    rw [b_165_13]
    exact lf_ex kk bg (by omega)
theorem w_export (bg : BG L sc a S S h) (iv : Inv S) (rc : gC h + 100 ≤ MXC) (rs : gS h + 6000 ≤ MXS) (u al : Int) (kk : WK L sc a (xs (tr_export S u al) (Sexp S u al) S) S h Q (oc (tr_export S u al)) (Int64.ofInt ((xpR S u al).1))) :
    WP 166 0 [some (zr (some (a 0 0))), some (zi u), some (zi al), some (zr (some (a 200 0))), none] [] h Q := by
  obtain ⟨hi, hr, hm, o⟩ := id bg
  rw [b_166_0]
  refine ⟨(kd_some _ _ _).mpr hr.c0, ?_⟩
  refine c_export hi hr iv u al ?_
  refine br_mo (fun e => ?_) (fun e => ?_) (oc_key (tr_export S u al))
  · have e : oc (tr_export S u al) = 0 := e
    rw [xs, if_pos e, e] at kk
    intro b g hr2 ec
    simp only [kont_v, Nat.reduceAdd, b_166_8, b_166_10, b_166_13, b_166_17, ad_some]
    exact lf_ok kk bg iv hr2 ec
  · have e : oc (tr_export S u al) = 1 := e
    rw [xs, if_neg (by omega), e] at kk
    refine ⟨⟨by omega, by omega⟩, fun q => ?_⟩
    show WP 166 13 _ [zr (some q)] (tk h) Q
    rw [b_166_13]
    exact lf_ex kk bg (by omega)
theorem w_exported (bg : BG L sc a S S h) (iv : Inv S) (rc : gC h + 100 ≤ MXC) (rs : gS h + 6000 ≤ MXS) (p w : Int) (kk : WK L sc a (xs (tr_exported S p w) (S) S) S h Q (oc (tr_exported S p w)) (Int64.ofInt (S 22 p w))) :
    WP 167 0 [some (zr (some (a 0 0))), some (zi p), some (zi w), some (zr (some (a 200 0))), none] [] h Q := by
  obtain ⟨hi, hr, hm, o⟩ := id bg
  rw [b_167_0]
  refine ⟨(kd_some _ _ _).mpr hr.c0, ?_⟩
  rw [c_exported hr iv ⟨iv.2.2.2.2, iv.2.2.2.1⟩ p w]
  refine br_mo (fun e => br_mo (fun e => ?_) (fun e => ?_) e) (fun e => ?_) (oc_key (tr_exported S p w))
  · have e : oc (tr_exported S p w) = 0 := e
    rw [xs, if_pos e, e] at kk
    simp only [kont_v, Nat.reduceAdd, b_167_8, b_167_10, b_167_13, b_167_17, b_167_21, ad_some]
    exact lf_ok kk bg iv (hr) (ec_0 hi)
  · have e : oc (tr_exported S p w) = 2 := e
    rw [xs, if_neg (by omega), e] at kk
    refine ⟨⟨by omega, by omega⟩, fun q => ?_⟩
    show WP 167 17 _ [zr (some q)] (tk h) Q
    rw [b_167_17]
    exact lf_ex kk bg (by omega)
  · have e : oc (tr_exported S p w) = 1 := e
    rw [xs, if_neg (by omega), e] at kk
    refine ⟨⟨by omega, by omega⟩, fun q => ?_⟩
    show WP 167 13 _ [zr (some q)] (tk h) Q
    rw [b_167_13]
    exact lf_ex kk bg (by omega)
theorem w_lostBy (bg : BG L sc a S S h) (iv : Inv S) (rc : gC h + 100 ≤ MXC) (rs : gS h + 6000 ≤ MXS) (p m : Int) (kk : WK L sc a (xs (tr_lostBy S p m) (S) S) S h Q (oc (tr_lostBy S p m)) (Int64.ofInt (cn (LB S p m) (S 7 0 0).toNat 0))) :
    WP 168 0 [some (zr (some (a 0 0))), some (zi p), some (zi m), some (zr (some (a 200 0))), none] [] h Q := by
  obtain ⟨hi, hr, hm, o⟩ := id bg
  rw [b_168_0]
  refine ⟨(kd_some _ _ _).mpr hr.c0, ?_⟩
  rw [c_lostBy hr iv p m]
  refine br_mo (fun e => br_mo (fun e => ?_) (fun e => ?_) e) (fun e => ?_) (oc_key (tr_lostBy S p m))
  · have e : oc (tr_lostBy S p m) = 0 := e
    rw [xs, if_pos e, e] at kk
    simp only [kont_v, Nat.reduceAdd, b_168_8, b_168_10, b_168_13, b_168_17, b_168_21, ad_some]
    exact lf_ok kk bg iv (hr) (ec_0 hi)
  · have e : oc (tr_lostBy S p m) = 2 := e
    rw [xs, if_neg (by omega), e] at kk
    refine ⟨⟨by omega, by omega⟩, fun q => ?_⟩
    show WP 168 17 _ [zr (some q)] (tk h) Q
    rw [b_168_17]
    exact lf_ex kk bg (by omega)
  · have e : oc (tr_lostBy S p m) = 1 := e
    rw [xs, if_neg (by omega), e] at kk
    refine ⟨⟨by omega, by omega⟩, fun q => ?_⟩
    show WP 168 13 _ [zr (some q)] (tk h) Q
    rw [b_168_13]
    exact lf_ex kk bg (by omega)
theorem w_wouldHeal (bg : BG L sc a S S h) (iv : Inv S) (rc : gC h + 100 ≤ MXC) (rs : gS h + 6000 ≤ MXS) (k : Int) (kk : WK L sc a (xs (tr_wouldHeal S k) (S) S) S h Q (oc (tr_wouldHeal S k)) (Int64.ofInt (FD S (S 11 k 0)))) :
    WP 169 0 [some (zr (some (a 0 0))), some (zi k), some (zr (some (a 200 0))), none] [] h Q := by
  obtain ⟨hi, hr, hm, o⟩ := id bg
  rw [b_169_0]
  refine ⟨(kd_some _ _ _).mpr hr.c0, ?_⟩
  rw [c_wouldHeal hr iv k]
  refine br_mo (fun e => ?_) (fun e => ?_) (oc_key (tr_wouldHeal S k))
  · have e : oc (tr_wouldHeal S k) = 0 := e
    rw [xs, if_pos e, e] at kk
    simp only [kont_v, Nat.reduceAdd, b_169_7, b_169_9, b_169_12, b_169_15, ad_some]
    exact lf_ok kk bg iv (hr) (ec_0 hi)
  · have e : oc (tr_wouldHeal S k) = 1 := e
    rw [xs, if_neg (by omega), e] at kk
    refine ⟨⟨by omega, by omega⟩, fun q => ?_⟩
    show WP 169 12 _ [zr (some q)] (tk h) Q
    rw [b_169_12]
    exact lf_ex kk bg (by omega)
theorem w_wouldSee (bg : BG L sc a S S h) (iv : Inv S) (rc : gC h + 100 ≤ MXC) (rs : gS h + 6000 ≤ MXS) (u r : Int) (kk : WK L sc a (xs (tr_wouldSee S u r) (S) S) S h Q (oc (tr_wouldSee S u r)) (Int64.ofInt (cn (WS S u r) (S 7 0 0).toNat 0))) :
    WP 170 0 [some (zr (some (a 0 0))), some (zi u), some (zi r), some (zr (some (a 200 0))), none] [] h Q := by
  obtain ⟨hi, hr, hm, o⟩ := id bg
  rw [b_170_0]
  refine ⟨(kd_some _ _ _).mpr hr.c0, ?_⟩
  rw [c_wouldSee hr iv u r]
  refine br_mo (fun e => br_mo (fun e => ?_) (fun e => ?_) e) (fun e => ?_) (oc_key (tr_wouldSee S u r))
  · have e : oc (tr_wouldSee S u r) = 0 := e
    rw [xs, if_pos e, e] at kk
    simp only [kont_v, Nat.reduceAdd, b_170_8, b_170_10, b_170_13, b_170_17, b_170_21, ad_some]
    exact lf_ok kk bg iv (hr) (ec_0 hi)
  · have e : oc (tr_wouldSee S u r) = 2 := e
    rw [xs, if_neg (by omega), e] at kk
    refine ⟨⟨by omega, by omega⟩, fun q => ?_⟩
    show WP 170 17 _ [zr (some q)] (tk h) Q
    rw [b_170_17]
    exact lf_ex kk bg (by omega)
  · have e : oc (tr_wouldSee S u r) = 1 := e
    rw [xs, if_neg (by omega), e] at kk
    refine ⟨⟨by omega, by omega⟩, fun q => ?_⟩
    show WP 170 13 _ [zr (some q)] (tk h) Q
    rw [b_170_13]
    exact lf_ex kk bg (by omega)
end
