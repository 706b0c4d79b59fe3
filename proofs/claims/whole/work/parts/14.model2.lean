def mg_X5_goOn_319 (ru : Nat → Int32) (pr : Nat → Int32) (w : Int32) (sm : Int32) : Int32 := (if ((pr (Int32.toNatClampNeg w)) + ((sm - (ru 7)) / (ru 8))) ≤ 20000 then ((pr (Int32.toNatClampNeg w)) + ((sm - (ru 7)) / (ru 8))) else 20000)
def mg_X5_goOn_288 (ru : Nat → Int32) (pr : Nat → Int32) (w : Int32) (sm : Int32) : Int32 := (if sm ≤ (ru 7) then ((pr (Int32.toNatClampNeg w)) - (ru 9)) else (mg_X5_goOn_319 ru pr w sm))
def mg_X5_goOn_355 (ru : Nat → Int32) (pr : Nat → Int32) (w : Int32) (se : Int32) (sm : Int32) : Int32 := (if se ≤ (mg_X5_goOn_288 ru pr w sm) then (mg_X5_goOn_288 ru pr w sm) else se)
def mg_X5_goOn_382 (ru : Nat → Int32) (pr : Nat → Int32) (hg : Nat → Int32) (w : Int32) (se : Int32) (sm : Int32) : Int32 := (if ((upd pr (Int32.toNatClampNeg w) (mg_X5_goOn_355 ru pr w se sm)) (Int32.toNatClampNeg w)) ≤ (hg (Int32.toNatClampNeg w)) then (hg (Int32.toNatClampNeg w)) else ((upd pr (Int32.toNatClampNeg w) (mg_X5_goOn_355 ru pr w se sm)) (Int32.toNatClampNeg w)))
noncomputable def mg_X5_goOn_114 (Y : Nat → Int32) (ru : Nat → Int32) (pr : Nat → Int32) (w : Int32) (sh : Int32) (i : Int32) (ic : Nat → Int32) : Int32 := (if (ic (Int32.toNatClampNeg ((24 * w) + i))) ≤ (r_X5_steamAt ru (r_X5_warmthOf Y ru ic pr w i sh) ((100 * ((ru 0) - (ic (Int32.toNatClampNeg ((24 * w) + i))))) / (ru 0)) (pr (Int32.toNatClampNeg w))) then (ic (Int32.toNatClampNeg ((24 * w) + i))) else (r_X5_steamAt ru (r_X5_warmthOf Y ru ic pr w i sh) ((100 * ((ru 0) - (ic (Int32.toNatClampNeg ((24 * w) + i))))) / (ru 0)) (pr (Int32.toNatClampNeg w))))
noncomputable def mg_X5_goOn_183 (Y : Nat → Int32) (ru : Nat → Int32) (mn : Nat → Int32) (pr : Nat → Int32) (w : Int32) (sh : Int32) (i : Int32) (ic : Nat → Int32) (fe : Nat → Int32) : Int32 := (if (r_X5_warmthOf Y ru ic pr w i sh) ≤ (ru 6) then (fe (Int32.toNatClampNeg ((24 * w) + i))) else (if 0 ≤ (fe (Int32.toNatClampNeg ((24 * w) + i))) then (fe (Int32.toNatClampNeg ((24 * w) + i))) else (mn (Int32.toNatClampNeg w))))
noncomputable def mg_X5_goOn_226 (Y : Nat → Int32) (ru : Nat → Int32) (mn : Nat → Int32) (pr : Nat → Int32) (w : Int32) (sh : Int32) (i : Int32) (ic : Nat → Int32) (dr : Nat → Int32) : Int32 := (if ((upd ic (Int32.toNatClampNeg ((24 * w) + i)) ((ic (Int32.toNatClampNeg ((24 * w) + i))) - (mg_X5_goOn_114 Y ru pr w sh i ic))) (Int32.toNatClampNeg ((24 * w) + i))) = 0 then (mn (Int32.toNatClampNeg w)) else (dr (Int32.toNatClampNeg ((24 * w) + i))))
noncomputable def lq_X5_goOn_6_ic (Y : Nat → Int32) (ru : Nat → Int32) (mn : Nat → Int32) (pr : Nat → Int32) (hg : Nat → Int32) (al : Nat → Int32) (sd : Nat → Int32) (w : Int32) (sh : Int32) (se : Int32) : Nat → (Int32) → (Int32) → (Nat → Int32) → (Nat → Int32) → (Nat → Int32) → (Nat → Int32) → (Nat → Int32) → (Nat → Int32)
  | 0, _, _, _, _, _, _, _ => fun _ => 0
  | n + 1, sm, i, ic, wm, ga, fe, dr => (if (r_X5_vials Y) ≤ i then ic else (if (ic (Int32.toNatClampNeg ((24 * w) + i))) = 0 then (lq_X5_goOn_6_ic Y ru mn pr hg al sd w sh se n sm (i + 1) ic (upd wm (Int32.toNatClampNeg ((24 * w) + i)) sh) (upd ga (Int32.toNatClampNeg ((24 * w) + i)) 0) fe dr) else (lq_X5_goOn_6_ic Y ru mn pr hg al sd w sh se n (sm + (mg_X5_goOn_114 Y ru pr w sh i ic)) (i + 1) (upd ic (Int32.toNatClampNeg ((24 * w) + i)) ((ic (Int32.toNatClampNeg ((24 * w) + i))) - (mg_X5_goOn_114 Y ru pr w sh i ic))) (upd wm (Int32.toNatClampNeg ((24 * w) + i)) (r_X5_warmthOf Y ru ic pr w i sh)) (upd ga (Int32.toNatClampNeg ((24 * w) + i)) (mg_X5_goOn_114 Y ru pr w sh i ic)) (upd fe (Int32.toNatClampNeg ((24 * w) + i)) (mg_X5_goOn_183 Y ru mn pr w sh i ic fe)) (upd dr (Int32.toNatClampNeg ((24 * w) + i)) (mg_X5_goOn_226 Y ru mn pr w sh i ic dr)))))
noncomputable def lq_X5_goOn_6_wm (Y : Nat → Int32) (ru : Nat → Int32) (mn : Nat → Int32) (pr : Nat → Int32) (hg : Nat → Int32) (al : Nat → Int32) (sd : Nat → Int32) (w : Int32) (sh : Int32) (se : Int32) : Nat → (Int32) → (Int32) → (Nat → Int32) → (Nat → Int32) → (Nat → Int32) → (Nat → Int32) → (Nat → Int32) → (Nat → Int32)
  | 0, _, _, _, _, _, _, _ => fun _ => 0
  | n + 1, sm, i, ic, wm, ga, fe, dr => (if (r_X5_vials Y) ≤ i then wm else (if (ic (Int32.toNatClampNeg ((24 * w) + i))) = 0 then (lq_X5_goOn_6_wm Y ru mn pr hg al sd w sh se n sm (i + 1) ic (upd wm (Int32.toNatClampNeg ((24 * w) + i)) sh) (upd ga (Int32.toNatClampNeg ((24 * w) + i)) 0) fe dr) else (lq_X5_goOn_6_wm Y ru mn pr hg al sd w sh se n (sm + (mg_X5_goOn_114 Y ru pr w sh i ic)) (i + 1) (upd ic (Int32.toNatClampNeg ((24 * w) + i)) ((ic (Int32.toNatClampNeg ((24 * w) + i))) - (mg_X5_goOn_114 Y ru pr w sh i ic))) (upd wm (Int32.toNatClampNeg ((24 * w) + i)) (r_X5_warmthOf Y ru ic pr w i sh)) (upd ga (Int32.toNatClampNeg ((24 * w) + i)) (mg_X5_goOn_114 Y ru pr w sh i ic)) (upd fe (Int32.toNatClampNeg ((24 * w) + i)) (mg_X5_goOn_183 Y ru mn pr w sh i ic fe)) (upd dr (Int32.toNatClampNeg ((24 * w) + i)) (mg_X5_goOn_226 Y ru mn pr w sh i ic dr)))))
noncomputable def lq_X5_goOn_6_ga (Y : Nat → Int32) (ru : Nat → Int32) (mn : Nat → Int32) (pr : Nat → Int32) (hg : Nat → Int32) (al : Nat → Int32) (sd : Nat → Int32) (w : Int32) (sh : Int32) (se : Int32) : Nat → (Int32) → (Int32) → (Nat → Int32) → (Nat → Int32) → (Nat → Int32) → (Nat → Int32) → (Nat → Int32) → (Nat → Int32)
  | 0, _, _, _, _, _, _, _ => fun _ => 0
  | n + 1, sm, i, ic, wm, ga, fe, dr => (if (r_X5_vials Y) ≤ i then ga else (if (ic (Int32.toNatClampNeg ((24 * w) + i))) = 0 then (lq_X5_goOn_6_ga Y ru mn pr hg al sd w sh se n sm (i + 1) ic (upd wm (Int32.toNatClampNeg ((24 * w) + i)) sh) (upd ga (Int32.toNatClampNeg ((24 * w) + i)) 0) fe dr) else (lq_X5_goOn_6_ga Y ru mn pr hg al sd w sh se n (sm + (mg_X5_goOn_114 Y ru pr w sh i ic)) (i + 1) (upd ic (Int32.toNatClampNeg ((24 * w) + i)) ((ic (Int32.toNatClampNeg ((24 * w) + i))) - (mg_X5_goOn_114 Y ru pr w sh i ic))) (upd wm (Int32.toNatClampNeg ((24 * w) + i)) (r_X5_warmthOf Y ru ic pr w i sh)) (upd ga (Int32.toNatClampNeg ((24 * w) + i)) (mg_X5_goOn_114 Y ru pr w sh i ic)) (upd fe (Int32.toNatClampNeg ((24 * w) + i)) (mg_X5_goOn_183 Y ru mn pr w sh i ic fe)) (upd dr (Int32.toNatClampNeg ((24 * w) + i)) (mg_X5_goOn_226 Y ru mn pr w sh i ic dr)))))
noncomputable def lq_X5_goOn_6_fe (Y : Nat → Int32) (ru : Nat → Int32) (mn : Nat → Int32) (pr : Nat → Int32) (hg : Nat → Int32) (al : Nat → Int32) (sd : Nat → Int32) (w : Int32) (sh : Int32) (se : Int32) : Nat → (Int32) → (Int32) → (Nat → Int32) → (Nat → Int32) → (Nat → Int32) → (Nat → Int32) → (Nat → Int32) → (Nat → Int32)
  | 0, _, _, _, _, _, _, _ => fun _ => 0
  | n + 1, sm, i, ic, wm, ga, fe, dr => (if (r_X5_vials Y) ≤ i then fe else (if (ic (Int32.toNatClampNeg ((24 * w) + i))) = 0 then (lq_X5_goOn_6_fe Y ru mn pr hg al sd w sh se n sm (i + 1) ic (upd wm (Int32.toNatClampNeg ((24 * w) + i)) sh) (upd ga (Int32.toNatClampNeg ((24 * w) + i)) 0) fe dr) else (lq_X5_goOn_6_fe Y ru mn pr hg al sd w sh se n (sm + (mg_X5_goOn_114 Y ru pr w sh i ic)) (i + 1) (upd ic (Int32.toNatClampNeg ((24 * w) + i)) ((ic (Int32.toNatClampNeg ((24 * w) + i))) - (mg_X5_goOn_114 Y ru pr w sh i ic))) (upd wm (Int32.toNatClampNeg ((24 * w) + i)) (r_X5_warmthOf Y ru ic pr w i sh)) (upd ga (Int32.toNatClampNeg ((24 * w) + i)) (mg_X5_goOn_114 Y ru pr w sh i ic)) (upd fe (Int32.toNatClampNeg ((24 * w) + i)) (mg_X5_goOn_183 Y ru mn pr w sh i ic fe)) (upd dr (Int32.toNatClampNeg ((24 * w) + i)) (mg_X5_goOn_226 Y ru mn pr w sh i ic dr)))))
noncomputable def lq_X5_goOn_6_dr (Y : Nat → Int32) (ru : Nat → Int32) (mn : Nat → Int32) (pr : Nat → Int32) (hg : Nat → Int32) (al : Nat → Int32) (sd : Nat → Int32) (w : Int32) (sh : Int32) (se : Int32) : Nat → (Int32) → (Int32) → (Nat → Int32) → (Nat → Int32) → (Nat → Int32) → (Nat → Int32) → (Nat → Int32) → (Nat → Int32)
  | 0, _, _, _, _, _, _, _ => fun _ => 0
  | n + 1, sm, i, ic, wm, ga, fe, dr => (if (r_X5_vials Y) ≤ i then dr else (if (ic (Int32.toNatClampNeg ((24 * w) + i))) = 0 then (lq_X5_goOn_6_dr Y ru mn pr hg al sd w sh se n sm (i + 1) ic (upd wm (Int32.toNatClampNeg ((24 * w) + i)) sh) (upd ga (Int32.toNatClampNeg ((24 * w) + i)) 0) fe dr) else (lq_X5_goOn_6_dr Y ru mn pr hg al sd w sh se n (sm + (mg_X5_goOn_114 Y ru pr w sh i ic)) (i + 1) (upd ic (Int32.toNatClampNeg ((24 * w) + i)) ((ic (Int32.toNatClampNeg ((24 * w) + i))) - (mg_X5_goOn_114 Y ru pr w sh i ic))) (upd wm (Int32.toNatClampNeg ((24 * w) + i)) (r_X5_warmthOf Y ru ic pr w i sh)) (upd ga (Int32.toNatClampNeg ((24 * w) + i)) (mg_X5_goOn_114 Y ru pr w sh i ic)) (upd fe (Int32.toNatClampNeg ((24 * w) + i)) (mg_X5_goOn_183 Y ru mn pr w sh i ic fe)) (upd dr (Int32.toNatClampNeg ((24 * w) + i)) (mg_X5_goOn_226 Y ru mn pr w sh i ic dr)))))
noncomputable def lq_X5_goOn_6_mn (Y : Nat → Int32) (ru : Nat → Int32) (mn : Nat → Int32) (pr : Nat → Int32) (hg : Nat → Int32) (al : Nat → Int32) (sd : Nat → Int32) (w : Int32) (sh : Int32) (se : Int32) : Nat → (Int32) → (Int32) → (Nat → Int32) → (Nat → Int32) → (Nat → Int32) → (Nat → Int32) → (Nat → Int32) → (Nat → Int32)
  | 0, _, _, _, _, _, _, _ => fun _ => 0
  | n + 1, sm, i, ic, wm, ga, fe, dr => (if (r_X5_vials Y) ≤ i then (upd mn (Int32.toNatClampNeg w) ((mn (Int32.toNatClampNeg w)) + 1)) else (if (ic (Int32.toNatClampNeg ((24 * w) + i))) = 0 then (lq_X5_goOn_6_mn Y ru mn pr hg al sd w sh se n sm (i + 1) ic (upd wm (Int32.toNatClampNeg ((24 * w) + i)) sh) (upd ga (Int32.toNatClampNeg ((24 * w) + i)) 0) fe dr) else (lq_X5_goOn_6_mn Y ru mn pr hg al sd w sh se n (sm + (mg_X5_goOn_114 Y ru pr w sh i ic)) (i + 1) (upd ic (Int32.toNatClampNeg ((24 * w) + i)) ((ic (Int32.toNatClampNeg ((24 * w) + i))) - (mg_X5_goOn_114 Y ru pr w sh i ic))) (upd wm (Int32.toNatClampNeg ((24 * w) + i)) (r_X5_warmthOf Y ru ic pr w i sh)) (upd ga (Int32.toNatClampNeg ((24 * w) + i)) (mg_X5_goOn_114 Y ru pr w sh i ic)) (upd fe (Int32.toNatClampNeg ((24 * w) + i)) (mg_X5_goOn_183 Y ru mn pr w sh i ic fe)) (upd dr (Int32.toNatClampNeg ((24 * w) + i)) (mg_X5_goOn_226 Y ru mn pr w sh i ic dr)))))
noncomputable def lq_X5_goOn_6_pr (Y : Nat → Int32) (ru : Nat → Int32) (mn : Nat → Int32) (pr : Nat → Int32) (hg : Nat → Int32) (al : Nat → Int32) (sd : Nat → Int32) (w : Int32) (sh : Int32) (se : Int32) : Nat → (Int32) → (Int32) → (Nat → Int32) → (Nat → Int32) → (Nat → Int32) → (Nat → Int32) → (Nat → Int32) → (Nat → Int32)
  | 0, _, _, _, _, _, _, _ => fun _ => 0
  | n + 1, sm, i, ic, wm, ga, fe, dr => (if (r_X5_vials Y) ≤ i then (upd pr (Int32.toNatClampNeg w) (mg_X5_goOn_355 ru pr w se sm)) else (if (ic (Int32.toNatClampNeg ((24 * w) + i))) = 0 then (lq_X5_goOn_6_pr Y ru mn pr hg al sd w sh se n sm (i + 1) ic (upd wm (Int32.toNatClampNeg ((24 * w) + i)) sh) (upd ga (Int32.toNatClampNeg ((24 * w) + i)) 0) fe dr) else (lq_X5_goOn_6_pr Y ru mn pr hg al sd w sh se n (sm + (mg_X5_goOn_114 Y ru pr w sh i ic)) (i + 1) (upd ic (Int32.toNatClampNeg ((24 * w) + i)) ((ic (Int32.toNatClampNeg ((24 * w) + i))) - (mg_X5_goOn_114 Y ru pr w sh i ic))) (upd wm (Int32.toNatClampNeg ((24 * w) + i)) (r_X5_warmthOf Y ru ic pr w i sh)) (upd ga (Int32.toNatClampNeg ((24 * w) + i)) (mg_X5_goOn_114 Y ru pr w sh i ic)) (upd fe (Int32.toNatClampNeg ((24 * w) + i)) (mg_X5_goOn_183 Y ru mn pr w sh i ic fe)) (upd dr (Int32.toNatClampNeg ((24 * w) + i)) (mg_X5_goOn_226 Y ru mn pr w sh i ic dr)))))
noncomputable def lq_X5_goOn_6_hg (Y : Nat → Int32) (ru : Nat → Int32) (mn : Nat → Int32) (pr : Nat → Int32) (hg : Nat → Int32) (al : Nat → Int32) (sd : Nat → Int32) (w : Int32) (sh : Int32) (se : Int32) : Nat → (Int32) → (Int32) → (Nat → Int32) → (Nat → Int32) → (Nat → Int32) → (Nat → Int32) → (Nat → Int32) → (Nat → Int32)
  | 0, _, _, _, _, _, _, _ => fun _ => 0
  | n + 1, sm, i, ic, wm, ga, fe, dr => (if (r_X5_vials Y) ≤ i then (upd hg (Int32.toNatClampNeg w) (mg_X5_goOn_382 ru pr hg w se sm)) else (if (ic (Int32.toNatClampNeg ((24 * w) + i))) = 0 then (lq_X5_goOn_6_hg Y ru mn pr hg al sd w sh se n sm (i + 1) ic (upd wm (Int32.toNatClampNeg ((24 * w) + i)) sh) (upd ga (Int32.toNatClampNeg ((24 * w) + i)) 0) fe dr) else (lq_X5_goOn_6_hg Y ru mn pr hg al sd w sh se n (sm + (mg_X5_goOn_114 Y ru pr w sh i ic)) (i + 1) (upd ic (Int32.toNatClampNeg ((24 * w) + i)) ((ic (Int32.toNatClampNeg ((24 * w) + i))) - (mg_X5_goOn_114 Y ru pr w sh i ic))) (upd wm (Int32.toNatClampNeg ((24 * w) + i)) (r_X5_warmthOf Y ru ic pr w i sh)) (upd ga (Int32.toNatClampNeg ((24 * w) + i)) (mg_X5_goOn_114 Y ru pr w sh i ic)) (upd fe (Int32.toNatClampNeg ((24 * w) + i)) (mg_X5_goOn_183 Y ru mn pr w sh i ic fe)) (upd dr (Int32.toNatClampNeg ((24 * w) + i)) (mg_X5_goOn_226 Y ru mn pr w sh i ic dr)))))
noncomputable def lq_X5_goOn_6_al (Y : Nat → Int32) (ru : Nat → Int32) (mn : Nat → Int32) (pr : Nat → Int32) (hg : Nat → Int32) (al : Nat → Int32) (sd : Nat → Int32) (w : Int32) (sh : Int32) (se : Int32) : Nat → (Int32) → (Int32) → (Nat → Int32) → (Nat → Int32) → (Nat → Int32) → (Nat → Int32) → (Nat → Int32) → (Nat → Int32)
  | 0, _, _, _, _, _, _, _ => fun _ => 0
  | n + 1, sm, i, ic, wm, ga, fe, dr => (if (r_X5_vials Y) ≤ i then (upd al (Int32.toNatClampNeg w) sm) else (if (ic (Int32.toNatClampNeg ((24 * w) + i))) = 0 then (lq_X5_goOn_6_al Y ru mn pr hg al sd w sh se n sm (i + 1) ic (upd wm (Int32.toNatClampNeg ((24 * w) + i)) sh) (upd ga (Int32.toNatClampNeg ((24 * w) + i)) 0) fe dr) else (lq_X5_goOn_6_al Y ru mn pr hg al sd w sh se n (sm + (mg_X5_goOn_114 Y ru pr w sh i ic)) (i + 1) (upd ic (Int32.toNatClampNeg ((24 * w) + i)) ((ic (Int32.toNatClampNeg ((24 * w) + i))) - (mg_X5_goOn_114 Y ru pr w sh i ic))) (upd wm (Int32.toNatClampNeg ((24 * w) + i)) (r_X5_warmthOf Y ru ic pr w i sh)) (upd ga (Int32.toNatClampNeg ((24 * w) + i)) (mg_X5_goOn_114 Y ru pr w sh i ic)) (upd fe (Int32.toNatClampNeg ((24 * w) + i)) (mg_X5_goOn_183 Y ru mn pr w sh i ic fe)) (upd dr (Int32.toNatClampNeg ((24 * w) + i)) (mg_X5_goOn_226 Y ru mn pr w sh i ic dr)))))
noncomputable def lq_X5_goOn_6_sd (Y : Nat → Int32) (ru : Nat → Int32) (mn : Nat → Int32) (pr : Nat → Int32) (hg : Nat → Int32) (al : Nat → Int32) (sd : Nat → Int32) (w : Int32) (sh : Int32) (se : Int32) : Nat → (Int32) → (Int32) → (Nat → Int32) → (Nat → Int32) → (Nat → Int32) → (Nat → Int32) → (Nat → Int32) → (Nat → Int32)
  | 0, _, _, _, _, _, _, _ => fun _ => 0
  | n + 1, sm, i, ic, wm, ga, fe, dr => (if (r_X5_vials Y) ≤ i then (upd sd (Int32.toNatClampNeg w) ((sd (Int32.toNatClampNeg w)) + sm)) else (if (ic (Int32.toNatClampNeg ((24 * w) + i))) = 0 then (lq_X5_goOn_6_sd Y ru mn pr hg al sd w sh se n sm (i + 1) ic (upd wm (Int32.toNatClampNeg ((24 * w) + i)) sh) (upd ga (Int32.toNatClampNeg ((24 * w) + i)) 0) fe dr) else (lq_X5_goOn_6_sd Y ru mn pr hg al sd w sh se n (sm + (mg_X5_goOn_114 Y ru pr w sh i ic)) (i + 1) (upd ic (Int32.toNatClampNeg ((24 * w) + i)) ((ic (Int32.toNatClampNeg ((24 * w) + i))) - (mg_X5_goOn_114 Y ru pr w sh i ic))) (upd wm (Int32.toNatClampNeg ((24 * w) + i)) (r_X5_warmthOf Y ru ic pr w i sh)) (upd ga (Int32.toNatClampNeg ((24 * w) + i)) (mg_X5_goOn_114 Y ru pr w sh i ic)) (upd fe (Int32.toNatClampNeg ((24 * w) + i)) (mg_X5_goOn_183 Y ru mn pr w sh i ic fe)) (upd dr (Int32.toNatClampNeg ((24 * w) + i)) (mg_X5_goOn_226 Y ru mn pr w sh i ic dr)))))
noncomputable def q_X5_goOn_ic (Y : Nat → Int32) (ru : Nat → Int32) (ic : Nat → Int32) (wm : Nat → Int32) (ga : Nat → Int32) (fe : Nat → Int32) (dr : Nat → Int32) (mn : Nat → Int32) (pr : Nat → Int32) (hg : Nat → Int32) (al : Nat → Int32) (sd : Nat → Int32) (w : Int32) (sh : Int32) (se : Int32) : Nat → Int32 := (lq_X5_goOn_6_ic Y ru mn pr hg al sd w sh se (fu ((Int32.toInt (r_X5_vials Y)).toNat + 1)) 0 0 ic wm ga fe dr)
noncomputable def q_X5_goOn_wm (Y : Nat → Int32) (ru : Nat → Int32) (ic : Nat → Int32) (wm : Nat → Int32) (ga : Nat → Int32) (fe : Nat → Int32) (dr : Nat → Int32) (mn : Nat → Int32) (pr : Nat → Int32) (hg : Nat → Int32) (al : Nat → Int32) (sd : Nat → Int32) (w : Int32) (sh : Int32) (se : Int32) : Nat → Int32 := (lq_X5_goOn_6_wm Y ru mn pr hg al sd w sh se (fu ((Int32.toInt (r_X5_vials Y)).toNat + 1)) 0 0 ic wm ga fe dr)
noncomputable def q_X5_goOn_ga (Y : Nat → Int32) (ru : Nat → Int32) (ic : Nat → Int32) (wm : Nat → Int32) (ga : Nat → Int32) (fe : Nat → Int32) (dr : Nat → Int32) (mn : Nat → Int32) (pr : Nat → Int32) (hg : Nat → Int32) (al : Nat → Int32) (sd : Nat → Int32) (w : Int32) (sh : Int32) (se : Int32) : Nat → Int32 := (lq_X5_goOn_6_ga Y ru mn pr hg al sd w sh se (fu ((Int32.toInt (r_X5_vials Y)).toNat + 1)) 0 0 ic wm ga fe dr)
noncomputable def q_X5_goOn_fe (Y : Nat → Int32) (ru : Nat → Int32) (ic : Nat → Int32) (wm : Nat → Int32) (ga : Nat → Int32) (fe : Nat → Int32) (dr : Nat → Int32) (mn : Nat → Int32) (pr : Nat → Int32) (hg : Nat → Int32) (al : Nat → Int32) (sd : Nat → Int32) (w : Int32) (sh : Int32) (se : Int32) : Nat → Int32 := (lq_X5_goOn_6_fe Y ru mn pr hg al sd w sh se (fu ((Int32.toInt (r_X5_vials Y)).toNat + 1)) 0 0 ic wm ga fe dr)
noncomputable def q_X5_goOn_dr (Y : Nat → Int32) (ru : Nat → Int32) (ic : Nat → Int32) (wm : Nat → Int32) (ga : Nat → Int32) (fe : Nat → Int32) (dr : Nat → Int32) (mn : Nat → Int32) (pr : Nat → Int32) (hg : Nat → Int32) (al : Nat → Int32) (sd : Nat → Int32) (w : Int32) (sh : Int32) (se : Int32) : Nat → Int32 := (lq_X5_goOn_6_dr Y ru mn pr hg al sd w sh se (fu ((Int32.toInt (r_X5_vials Y)).toNat + 1)) 0 0 ic wm ga fe dr)
noncomputable def q_X5_goOn_mn (Y : Nat → Int32) (ru : Nat → Int32) (ic : Nat → Int32) (wm : Nat → Int32) (ga : Nat → Int32) (fe : Nat → Int32) (dr : Nat → Int32) (mn : Nat → Int32) (pr : Nat → Int32) (hg : Nat → Int32) (al : Nat → Int32) (sd : Nat → Int32) (w : Int32) (sh : Int32) (se : Int32) : Nat → Int32 := (lq_X5_goOn_6_mn Y ru mn pr hg al sd w sh se (fu ((Int32.toInt (r_X5_vials Y)).toNat + 1)) 0 0 ic wm ga fe dr)
noncomputable def q_X5_goOn_pr (Y : Nat → Int32) (ru : Nat → Int32) (ic : Nat → Int32) (wm : Nat → Int32) (ga : Nat → Int32) (fe : Nat → Int32) (dr : Nat → Int32) (mn : Nat → Int32) (pr : Nat → Int32) (hg : Nat → Int32) (al : Nat → Int32) (sd : Nat → Int32) (w : Int32) (sh : Int32) (se : Int32) : Nat → Int32 := (lq_X5_goOn_6_pr Y ru mn pr hg al sd w sh se (fu ((Int32.toInt (r_X5_vials Y)).toNat + 1)) 0 0 ic wm ga fe dr)
noncomputable def q_X5_goOn_hg (Y : Nat → Int32) (ru : Nat → Int32) (ic : Nat → Int32) (wm : Nat → Int32) (ga : Nat → Int32) (fe : Nat → Int32) (dr : Nat → Int32) (mn : Nat → Int32) (pr : Nat → Int32) (hg : Nat → Int32) (al : Nat → Int32) (sd : Nat → Int32) (w : Int32) (sh : Int32) (se : Int32) : Nat → Int32 := (lq_X5_goOn_6_hg Y ru mn pr hg al sd w sh se (fu ((Int32.toInt (r_X5_vials Y)).toNat + 1)) 0 0 ic wm ga fe dr)
noncomputable def q_X5_goOn_al (Y : Nat → Int32) (ru : Nat → Int32) (ic : Nat → Int32) (wm : Nat → Int32) (ga : Nat → Int32) (fe : Nat → Int32) (dr : Nat → Int32) (mn : Nat → Int32) (pr : Nat → Int32) (hg : Nat → Int32) (al : Nat → Int32) (sd : Nat → Int32) (w : Int32) (sh : Int32) (se : Int32) : Nat → Int32 := (lq_X5_goOn_6_al Y ru mn pr hg al sd w sh se (fu ((Int32.toInt (r_X5_vials Y)).toNat + 1)) 0 0 ic wm ga fe dr)
noncomputable def q_X5_goOn_sd (Y : Nat → Int32) (ru : Nat → Int32) (ic : Nat → Int32) (wm : Nat → Int32) (ga : Nat → Int32) (fe : Nat → Int32) (dr : Nat → Int32) (mn : Nat → Int32) (pr : Nat → Int32) (hg : Nat → Int32) (al : Nat → Int32) (sd : Nat → Int32) (w : Int32) (sh : Int32) (se : Int32) : Nat → Int32 := (lq_X5_goOn_6_sd Y ru mn pr hg al sd w sh se (fu ((Int32.toInt (r_X5_vials Y)).toNat + 1)) 0 0 ic wm ga fe dr)
theorem ck_X5_goOn : CK yX5_goOn cX5_goOn 10 none 3 := ⟨wd_3_49, wd_1_7, by decide, by decide, by decide +kernel⟩
set_option maxHeartbeats 4000000 in
set_option maxRecDepth 100000 in
theorem c_X5_goOn (l : Launch) (D : va_G) (cI : ClassId) (a : Nat → Nat) (Y : Nat → Int32) (ru : Nat → Int32) (ic : Nat → Int32) (wm : Nat → Int32) (ga : Nat → Int32) (fe : Nat → Int32) (dr : Nat → Int32) (mn : Nat → Int32) (pr : Nat → Int32) (hg : Nat → Int32) (al : Nat → Int32) (sd : Nat → Int32) (w : Int32) (sh : Int32) (se : Int32) (hw : w = 0 ∨ w = 1) (hv : Int32.toInt (r_X5_vials Y) ≤ 24) (hc : ¬ (Y 1) = 0) (hf : ¬ (ru 0) = 0) (hg8 : ¬ (ru 8) = 0) (hI : okB Y ru ic w 0) : MV l D cI yX5_goOn cX5_goOn 10 5 118 [.ref (a 0), .int w, .int sh, .int se] [yc a Y, ac cI (a 2) 11 ru, ac cI (a 6) 48 ic, ac cI (a 7) 48 wm, ac cI (a 8) 48 ga, ac cI (a 9) 48 fe, ac cI (a 10) 48 dr, ac cI (a 11) 2 mn, ac cI (a 12) 2 pr, ac cI (a 13) 2 hg, ac cI (a 14) 2 al, ac cI (a 15) 2 sd] [yc a Y, ac cI (a 2) 11 ru, ac cI (a 6) 48 (q_X5_goOn_ic Y ru ic wm ga fe dr mn pr hg al sd w sh se), ac cI (a 7) 48 (q_X5_goOn_wm Y ru ic wm ga fe dr mn pr hg al sd w sh se), ac cI (a 8) 48 (q_X5_goOn_ga Y ru ic wm ga fe dr mn pr hg al sd w sh se), ac cI (a 9) 48 (q_X5_goOn_fe Y ru ic wm ga fe dr mn pr hg al sd w sh se), ac cI (a 10) 48 (q_X5_goOn_dr Y ru ic wm ga fe dr mn pr hg al sd w sh se), ac cI (a 11) 2 (q_X5_goOn_mn Y ru ic wm ga fe dr mn pr hg al sd w sh se), ac cI (a 12) 2 (q_X5_goOn_pr Y ru ic wm ga fe dr mn pr hg al sd w sh se), ac cI (a 13) 2 (q_X5_goOn_hg Y ru ic wm ga fe dr mn pr hg al sd w sh se), ac cI (a 14) 2 (q_X5_goOn_al Y ru ic wm ga fe dr mn pr hg al sd w sh se), ac cI (a 15) 2 (q_X5_goOn_sd Y ru ic wm ga fe dr mn pr hg al sd w sh se)] := by
  generalize ho_ic : (q_X5_goOn_ic Y ru ic wm ga fe dr mn pr hg al sd w sh se) = o_ic
  generalize ho_wm : (q_X5_goOn_wm Y ru ic wm ga fe dr mn pr hg al sd w sh se) = o_wm
  generalize ho_ga : (q_X5_goOn_ga Y ru ic wm ga fe dr mn pr hg al sd w sh se) = o_ga
  generalize ho_fe : (q_X5_goOn_fe Y ru ic wm ga fe dr mn pr hg al sd w sh se) = o_fe
  generalize ho_dr : (q_X5_goOn_dr Y ru ic wm ga fe dr mn pr hg al sd w sh se) = o_dr
  generalize ho_mn : (q_X5_goOn_mn Y ru ic wm ga fe dr mn pr hg al sd w sh se) = o_mn
  generalize ho_pr : (q_X5_goOn_pr Y ru ic wm ga fe dr mn pr hg al sd w sh se) = o_pr
  generalize ho_hg : (q_X5_goOn_hg Y ru ic wm ga fe dr mn pr hg al sd w sh se) = o_hg
  generalize ho_al : (q_X5_goOn_al Y ru ic wm ga fe dr mn pr hg al sd w sh se) = o_al
  generalize ho_sd : (q_X5_goOn_sd Y ru ic wm ga fe dr mn pr hg al sd w sh se) = o_sd
  refine MV.mk (own := RX5) rfl (by decide) (Nat.le_of_ble_eq_true rfl) ?_
  intro p e s m args below meth c A Q C hD hend H locs ls hP hS hl
  have hx := C.1.1
  have hb := C.1.2.1
  have hl : lv_has ls 10 [(0, .ref (a 0)), (1, .int w), (2, .int sh), (3, .int se)] := hl
  refine lv_iconst (v := 0) hx hb dX5_goOn_0 (by decide) ?_
  refine lv_istore (lv' := [(4, .int 0), (0, .ref (a 0)), (1, .int w), (2, .int sh), (3, .int se)]) hx hb dX5_goOn_1 hl (by decide) rfl (fun ls hl => ?_)
  refine lv_iconst (v := 0) hx hb dX5_goOn_3 (by decide) ?_
  refine lv_istore (lv' := [(5, .int 0), (4, .int 0), (0, .ref (a 0)), (1, .int w), (2, .int sh), (3, .int se)]) hx hb dX5_goOn_4 hl (by decide) rfl (fun ls hl => ?_)
  have lp6 : ∀ (n : Nat) (sm : Int32) (i : Int32) (ic : Nat → Int32) (wm : Nat → Int32) (ga : Nat → Int32) (fe : Nat → Int32) (dr : Nat → Int32), 0 ≤ Int32.toInt i → okB Y ru ic w i → (Int32.toInt (r_X5_vials Y) - Int32.toInt i).toNat < n → lq_X5_goOn_6_ic Y ru mn pr hg al sd w sh se n sm i ic wm ga fe dr = o_ic → lq_X5_goOn_6_wm Y ru mn pr hg al sd w sh se n sm i ic wm ga fe dr = o_wm → lq_X5_goOn_6_ga Y ru mn pr hg al sd w sh se n sm i ic wm ga fe dr = o_ga → lq_X5_goOn_6_fe Y ru mn pr hg al sd w sh se n sm i ic wm ga fe dr = o_fe → lq_X5_goOn_6_dr Y ru mn pr hg al sd w sh se n sm i ic wm ga fe dr = o_dr → lq_X5_goOn_6_mn Y ru mn pr hg al sd w sh se n sm i ic wm ga fe dr = o_mn → lq_X5_goOn_6_pr Y ru mn pr hg al sd w sh se n sm i ic wm ga fe dr = o_pr → lq_X5_goOn_6_hg Y ru mn pr hg al sd w sh se n sm i ic wm ga fe dr = o_hg → lq_X5_goOn_6_al Y ru mn pr hg al sd w sh se n sm i ic wm ga fe dr = o_al → lq_X5_goOn_6_sd Y ru mn pr hg al sd w sh se n sm i ic wm ga fe dr = o_sd → ∀ (ls : Array Slot) (H : Heap) (locs : List Loc), lv_has ls 10 [(0, .ref (a 0)), (1, .int w), (2, .int sh), (3, .int se), (4, .int sm), (5, .int i)] → va_P D vwCl [yc a Y, ac cI (a 2) 11 ru, ac cI (a 6) 48 ic, ac cI (a 7) 48 wm, ac cI (a 8) 48 ga, ac cI (a 9) 48 fe, ac cI (a 10) 48 dr, ac cI (a 11) 2 mn, ac cI (a 12) 2 pr, ac cI (a 13) 2 hg, ac cI (a 14) 2 al, ac cI (a 15) 2 sd] H → va_D A [yc a Y, ac cI (a 2) 11 ru, ac cI (a 6) 48 ic, ac cI (a 7) 48 wm, ac cI (a 8) 48 ga, ac cI (a 9) 48 fe, ac cI (a 10) 48 dr, ac cI (a 11) 2 mn, ac cI (a 12) 2 pr, ac cI (a 13) 2 hg, ac cI (a 14) 2 al, ac cI (a 15) 2 sd] → va_S A s.heap H locs → W p l e (RM 5 118) s m args below meth c H locs 0 0 Q (F0 m 6 ls []) := by
    clear hl hP hD hS
    intro n
    induction n with
    | zero =>
      intro sm i ic wm ga fe dr h0 hI hm
      exact absurd hm (Nat.not_lt_zero _)
    | succ n ih =>
      intro sm i ic wm ga fe dr h0 hI hm ho_ic ho_wm ho_ga ho_fe ho_dr ho_mn ho_pr ho_hg ho_al ho_sd ls H locs hl hP hD hS
      refine lv_iload hx hb dX5_goOn_6 (lv_at hl 5 rfl) ?_
      refine lv_aload_n hx hb dX5_goOn_8 rfl (lv_at hl 0 rfl) ?_
      refine go_i (ws' := [yc a Y, ac cI (a 2) 11 ru, ac cI (a 6) 48 ic, ac cI (a 7) 48 wm, ac cI (a 8) 48 ga, ac cI (a 9) 48 fe, ac cI (a 10) 48 dr, ac cI (a 11) 2 mn, ac cI (a 12) 2 pr, ac cI (a 13) 2 hg, ac cI (a 14) 2 al, ac cI (a 15) 2 sd]) C (rn_V (As := []) (rest := [.int i]) C (c_X5_vials l D cI a Y H.size) ck_X5_vials wd_2_221 wd_0_5 wd_2_219 ⟨Nat.le_of_ble_eq_true rfl, Nat.le_of_ble_eq_true rfl⟩ ⟨Nat.le_refl _, Nat.le_refl _⟩ (ci := 5) (q0 := 0) rfl rfl hP hD hS [0] rfl rfl hl rfl (Nat.le_of_ble_eq_true rfl) dX5_goOn_9) hP hD hS [0] rfl rfl rfl (fun H locs hP hD hS => ?_)
      refine lv_icmp_ge (tgt := 252) hx hb dX5_goOn_12 (by decide) (fun c1 => ?_) (fun c1 => ?_)
      · refine lv_aload_n hx hb dX5_goOn_252 rfl (lv_at hl 0 rfl) ?_
        refine kget (v := .ref (a 14)) C hP igX5 rfl 14 (by decide) wd_2_160 0 rfl rfl dX5_goOn_253 ?_
        refine lv_iload_n hx hb dX5_goOn_256 rfl (lv_at hl 1 rfl) ?_
        refine lv_iload hx hb dX5_goOn_257 (lv_at hl 4 rfl) ?_
        refine kast (ws' := [yc a Y, ac cI (a 2) 11 ru, ac cI (a 6) 48 ic, ac cI (a 7) 48 wm, ac cI (a 8) 48 ga, ac cI (a 9) 48 fe, ac cI (a 10) 48 dr, ac cI (a 11) 2 mn, ac cI (a 12) 2 pr, ac cI (a 13) 2 hg, ac cI (a 14) 2 (upd al (Int32.toNatClampNeg w) sm), ac cI (a 15) 2 sd]) C hP hD hS 10 rfl (in2 hw) (k := (Int32.toNatClampNeg w)) rfl rfl dX5_goOn_259 (fun H locs hP hD hS => ?_)
        refine lv_aload_n hx hb dX5_goOn_260 rfl (lv_at hl 0 rfl) ?_
        refine kget (v := .ref (a 15)) C hP igX5 rfl 15 (by decide) wd_2_161 0 rfl rfl dX5_goOn_261 ?_
        refine lv_iload_n hx hb dX5_goOn_264 rfl (lv_at hl 1 rfl) ?_
        refine lv_dup2_11 hx hb dX5_goOn_265 rfl rfl ?_
        refine kald C hP 11 rfl (in2 hw) (k := (Int32.toNatClampNeg w)) rfl dX5_goOn_266 ?_
        refine lv_iload hx hb dX5_goOn_267 (lv_at hl 4 rfl) ?_
        refine lv_iadd hx hb dX5_goOn_269 ?_
        refine kast (ws' := [yc a Y, ac cI (a 2) 11 ru, ac cI (a 6) 48 ic, ac cI (a 7) 48 wm, ac cI (a 8) 48 ga, ac cI (a 9) 48 fe, ac cI (a 10) 48 dr, ac cI (a 11) 2 mn, ac cI (a 12) 2 pr, ac cI (a 13) 2 hg, ac cI (a 14) 2 (upd al (Int32.toNatClampNeg w) sm), ac cI (a 15) 2 (upd sd (Int32.toNatClampNeg w) ((sd (Int32.toNatClampNeg w)) + sm))]) C hP hD hS 11 rfl (in2 hw) (k := (Int32.toNatClampNeg w)) rfl rfl dX5_goOn_270 (fun H locs hP hD hS => ?_)
        refine lv_aload_n hx hb dX5_goOn_271 rfl (lv_at hl 0 rfl) ?_
        refine kget (v := .ref (a 12)) C hP igX5 rfl 12 (by decide) wd_2_158 0 rfl rfl dX5_goOn_272 ?_
        refine lv_iload_n hx hb dX5_goOn_275 rfl (lv_at hl 1 rfl) ?_
        refine kald C hP 8 rfl (in2 hw) (k := (Int32.toNatClampNeg w)) rfl dX5_goOn_276 ?_
        refine lv_istore (lv' := [(5, .int (pr (Int32.toNatClampNeg w))), (0, .ref (a 0)), (1, .int w), (2, .int sh), (3, .int se), (4, .int sm)]) hx hb dX5_goOn_277 hl (by decide) rfl (fun ls hl => ?_)
        refine lv_iload hx hb dX5_goOn_279 (lv_at hl 5 rfl) ?_
        refine lv_aload_n hx hb dX5_goOn_281 rfl (lv_at hl 1 rfl) ?_
        refine kget (v := .ref (a 2)) C hP igX5 rfl 2 (by decide) wd_2_148 0 rfl rfl dX5_goOn_282 ?_
        refine lv_bipush (v := 7) hx hb dX5_goOn_285 (by decide) ?_
        refine kald C hP 1 rfl (vp_in_iff.mpr (by decide)) (k := 7) rfl dX5_goOn_287 ?_
        have j347 : ∀ (ls : Array Slot) (H : Heap) (locs : List Loc), lv_has ls 10 [(0, .ref (a 0)), (1, .int w), (2, .int sh), (3, .int se), (4, .int sm), (5, .int (mg_X5_goOn_288 ru pr w sm))] → va_P D vwCl [yc a Y, ac cI (a 2) 11 ru, ac cI (a 6) 48 ic, ac cI (a 7) 48 wm, ac cI (a 8) 48 ga, ac cI (a 9) 48 fe, ac cI (a 10) 48 dr, ac cI (a 11) 2 mn, ac cI (a 12) 2 pr, ac cI (a 13) 2 hg, ac cI (a 14) 2 (upd al (Int32.toNatClampNeg w) sm), ac cI (a 15) 2 (upd sd (Int32.toNatClampNeg w) ((sd (Int32.toNatClampNeg w)) + sm))] H → va_D A [yc a Y, ac cI (a 2) 11 ru, ac cI (a 6) 48 ic, ac cI (a 7) 48 wm, ac cI (a 8) 48 ga, ac cI (a 9) 48 fe, ac cI (a 10) 48 dr, ac cI (a 11) 2 mn, ac cI (a 12) 2 pr, ac cI (a 13) 2 hg, ac cI (a 14) 2 (upd al (Int32.toNatClampNeg w) sm), ac cI (a 15) 2 (upd sd (Int32.toNatClampNeg w) ((sd (Int32.toNatClampNeg w)) + sm))] → va_S A s.heap H locs → W p l e (RM 5 118) s m args below meth c H locs 0 0 Q (F0 m 347 ls []) := by
          intro ls H locs hl hP hD hS
          refine lv_aload_n hx hb dX5_goOn_347 rfl (lv_at hl 0 rfl) ?_
          refine kget (v := .ref (a 12)) C hP igX5 rfl 12 (by decide) wd_2_158 0 rfl rfl dX5_goOn_348 ?_
          refine lv_iload_n hx hb dX5_goOn_351 rfl (lv_at hl 1 rfl) ?_
          refine lv_iload hx hb dX5_goOn_352 (lv_at hl 5 rfl) ?_
          refine lv_iload_n hx hb dX5_goOn_354 rfl (lv_at hl 3 rfl) ?_
          have j364 : ∀ (ls : Array Slot) (H : Heap) (locs : List Loc), lv_has ls 10 [(0, .ref (a 0)), (1, .int w), (2, .int sh), (3, .int se), (4, .int sm), (5, .int (mg_X5_goOn_288 ru pr w sm))] → va_P D vwCl [yc a Y, ac cI (a 2) 11 ru, ac cI (a 6) 48 ic, ac cI (a 7) 48 wm, ac cI (a 8) 48 ga, ac cI (a 9) 48 fe, ac cI (a 10) 48 dr, ac cI (a 11) 2 mn, ac cI (a 12) 2 pr, ac cI (a 13) 2 hg, ac cI (a 14) 2 (upd al (Int32.toNatClampNeg w) sm), ac cI (a 15) 2 (upd sd (Int32.toNatClampNeg w) ((sd (Int32.toNatClampNeg w)) + sm))] H → va_D A [yc a Y, ac cI (a 2) 11 ru, ac cI (a 6) 48 ic, ac cI (a 7) 48 wm, ac cI (a 8) 48 ga, ac cI (a 9) 48 fe, ac cI (a 10) 48 dr, ac cI (a 11) 2 mn, ac cI (a 12) 2 pr, ac cI (a 13) 2 hg, ac cI (a 14) 2 (upd al (Int32.toNatClampNeg w) sm), ac cI (a 15) 2 (upd sd (Int32.toNatClampNeg w) ((sd (Int32.toNatClampNeg w)) + sm))] → va_S A s.heap H locs → W p l e (RM 5 118) s m args below meth c H locs 0 0 Q (F0 m 364 ls [.int (mg_X5_goOn_355 ru pr w se sm), .int w, .ref (a 12)]) := by
            intro ls H locs hl hP hD hS
            refine kast (ws' := [yc a Y, ac cI (a 2) 11 ru, ac cI (a 6) 48 ic, ac cI (a 7) 48 wm, ac cI (a 8) 48 ga, ac cI (a 9) 48 fe, ac cI (a 10) 48 dr, ac cI (a 11) 2 mn, ac cI (a 12) 2 (upd pr (Int32.toNatClampNeg w) (mg_X5_goOn_355 ru pr w se sm)), ac cI (a 13) 2 hg, ac cI (a 14) 2 (upd al (Int32.toNatClampNeg w) sm), ac cI (a 15) 2 (upd sd (Int32.toNatClampNeg w) ((sd (Int32.toNatClampNeg w)) + sm))]) C hP hD hS 8 rfl (in2 hw) (k := (Int32.toNatClampNeg w)) rfl rfl dX5_goOn_364 (fun H locs hP hD hS => ?_)
            refine lv_aload_n hx hb dX5_goOn_365 rfl (lv_at hl 0 rfl) ?_
            refine kget (v := .ref (a 13)) C hP igX5 rfl 13 (by decide) wd_2_159 0 rfl rfl dX5_goOn_366 ?_
            refine lv_iload_n hx hb dX5_goOn_369 rfl (lv_at hl 1 rfl) ?_
            refine lv_aload_n hx hb dX5_goOn_370 rfl (lv_at hl 0 rfl) ?_
            refine kget (v := .ref (a 12)) C hP igX5 rfl 12 (by decide) wd_2_158 0 rfl rfl dX5_goOn_371 ?_
            refine lv_iload_n hx hb dX5_goOn_374 rfl (lv_at hl 1 rfl) ?_
            refine kald C hP 8 rfl (in2 hw) (k := (Int32.toNatClampNeg w)) rfl dX5_goOn_375 ?_
            refine lv_aload_n hx hb dX5_goOn_376 rfl (lv_at hl 0 rfl) ?_
            refine kget (v := .ref (a 13)) C hP igX5 rfl 13 (by decide) wd_2_159 0 rfl rfl dX5_goOn_377 ?_
            refine lv_iload_n hx hb dX5_goOn_380 rfl (lv_at hl 1 rfl) ?_
            refine kald C hP 9 rfl (in2 hw) (k := (Int32.toNatClampNeg w)) rfl dX5_goOn_381 ?_
            have j400 : ∀ (ls : Array Slot) (H : Heap) (locs : List Loc), lv_has ls 10 [(0, .ref (a 0)), (1, .int w), (2, .int sh), (3, .int se), (4, .int sm), (5, .int (mg_X5_goOn_288 ru pr w sm))] → va_P D vwCl [yc a Y, ac cI (a 2) 11 ru, ac cI (a 6) 48 ic, ac cI (a 7) 48 wm, ac cI (a 8) 48 ga, ac cI (a 9) 48 fe, ac cI (a 10) 48 dr, ac cI (a 11) 2 mn, ac cI (a 12) 2 (upd pr (Int32.toNatClampNeg w) (mg_X5_goOn_355 ru pr w se sm)), ac cI (a 13) 2 hg, ac cI (a 14) 2 (upd al (Int32.toNatClampNeg w) sm), ac cI (a 15) 2 (upd sd (Int32.toNatClampNeg w) ((sd (Int32.toNatClampNeg w)) + sm))] H → va_D A [yc a Y, ac cI (a 2) 11 ru, ac cI (a 6) 48 ic, ac cI (a 7) 48 wm, ac cI (a 8) 48 ga, ac cI (a 9) 48 fe, ac cI (a 10) 48 dr, ac cI (a 11) 2 mn, ac cI (a 12) 2 (upd pr (Int32.toNatClampNeg w) (mg_X5_goOn_355 ru pr w se sm)), ac cI (a 13) 2 hg, ac cI (a 14) 2 (upd al (Int32.toNatClampNeg w) sm), ac cI (a 15) 2 (upd sd (Int32.toNatClampNeg w) ((sd (Int32.toNatClampNeg w)) + sm))] → va_S A s.heap H locs → W p l e (RM 5 118) s m args below meth c H locs 0 0 Q (F0 m 400 ls [.int (mg_X5_goOn_382 ru pr hg w se sm), .int w, .ref (a 13)]) := by
              intro ls H locs hl hP hD hS
              refine kast (ws' := [yc a Y, ac cI (a 2) 11 ru, ac cI (a 6) 48 ic, ac cI (a 7) 48 wm, ac cI (a 8) 48 ga, ac cI (a 9) 48 fe, ac cI (a 10) 48 dr, ac cI (a 11) 2 mn, ac cI (a 12) 2 (upd pr (Int32.toNatClampNeg w) (mg_X5_goOn_355 ru pr w se sm)), ac cI (a 13) 2 (upd hg (Int32.toNatClampNeg w) (mg_X5_goOn_382 ru pr hg w se sm)), ac cI (a 14) 2 (upd al (Int32.toNatClampNeg w) sm), ac cI (a 15) 2 (upd sd (Int32.toNatClampNeg w) ((sd (Int32.toNatClampNeg w)) + sm))]) C hP hD hS 9 rfl (in2 hw) (k := (Int32.toNatClampNeg w)) rfl rfl dX5_goOn_400 (fun H locs hP hD hS => ?_)
              refine lv_aload_n hx hb dX5_goOn_401 rfl (lv_at hl 0 rfl) ?_
              refine kget (v := .ref (a 11)) C hP igX5 rfl 11 (by decide) wd_2_157 0 rfl rfl dX5_goOn_402 ?_
              refine lv_iload_n hx hb dX5_goOn_405 rfl (lv_at hl 1 rfl) ?_
              refine lv_dup2_11 hx hb dX5_goOn_406 rfl rfl ?_
              refine kald C hP 7 rfl (in2 hw) (k := (Int32.toNatClampNeg w)) rfl dX5_goOn_407 ?_
              refine lv_iconst (v := 1) hx hb dX5_goOn_408 (by decide) ?_
              refine lv_iadd hx hb dX5_goOn_409 ?_
              refine kast (ws' := [yc a Y, ac cI (a 2) 11 ru, ac cI (a 6) 48 ic, ac cI (a 7) 48 wm, ac cI (a 8) 48 ga, ac cI (a 9) 48 fe, ac cI (a 10) 48 dr, ac cI (a 11) 2 (upd mn (Int32.toNatClampNeg w) ((mn (Int32.toNatClampNeg w)) + 1)), ac cI (a 12) 2 (upd pr (Int32.toNatClampNeg w) (mg_X5_goOn_355 ru pr w se sm)), ac cI (a 13) 2 (upd hg (Int32.toNatClampNeg w) (mg_X5_goOn_382 ru pr hg w se sm)), ac cI (a 14) 2 (upd al (Int32.toNatClampNeg w) sm), ac cI (a 15) 2 (upd sd (Int32.toNatClampNeg w) ((sd (Int32.toNatClampNeg w)) + sm))]) C hP hD hS 7 rfl (in2 hw) (k := (Int32.toNatClampNeg w)) rfl rfl dX5_goOn_410 (fun H locs hP hD hS => ?_)
              exact hend _ _ _ _ (by rw [← ho_ic, lq_X5_goOn_6_ic, if_pos c1, ← ho_wm, lq_X5_goOn_6_wm, if_pos c1, ← ho_ga, lq_X5_goOn_6_ga, if_pos c1, ← ho_fe, lq_X5_goOn_6_fe, if_pos c1, ← ho_dr, lq_X5_goOn_6_dr, if_pos c1, ← ho_mn, lq_X5_goOn_6_mn, if_pos c1, ← ho_pr, lq_X5_goOn_6_pr, if_pos c1, ← ho_hg, lq_X5_goOn_6_hg, if_pos c1, ← ho_al, lq_X5_goOn_6_al, if_pos c1, ← ho_sd, lq_X5_goOn_6_sd, if_pos c1]; exact hP) hS dX5_goOn_411
            refine lv_icmp_le (tgt := 394) hx hb dX5_goOn_382 (by decide) (fun c5 => ?_) (fun c5 => ?_)
            · refine lv_aload_n hx hb dX5_goOn_394 rfl (lv_at hl 0 rfl) ?_
              refine kget (v := .ref (a 13)) C hP igX5 rfl 13 (by decide) wd_2_159 0 rfl rfl dX5_goOn_395 ?_
              refine lv_iload_n hx hb dX5_goOn_398 rfl (lv_at hl 1 rfl) ?_
              refine kald C hP 9 rfl (in2 hw) (k := (Int32.toNatClampNeg w)) rfl dX5_goOn_399 ?_
              have e_mg_X5_goOn_382 : (mg_X5_goOn_382 ru pr hg w se sm) = (hg (Int32.toNatClampNeg w)) := by rw [mg_X5_goOn_382, if_pos c5]
              have jj := j400
              rw [e_mg_X5_goOn_382] at jj
              exact jj ls H locs (lv_sub hl [0, 1, 2, 3, 4, 5] rfl) hP hD hS
            · refine lv_aload_n hx hb dX5_goOn_385 rfl (lv_at hl 0 rfl) ?_
              refine kget (v := .ref (a 12)) C hP igX5 rfl 12 (by decide) wd_2_158 0 rfl rfl dX5_goOn_386 ?_
              refine lv_iload_n hx hb dX5_goOn_389 rfl (lv_at hl 1 rfl) ?_
              refine kald C hP 8 rfl (in2 hw) (k := (Int32.toNatClampNeg w)) rfl dX5_goOn_390 ?_
              refine lv_goto (tgt := 400) hx hb dX5_goOn_391 (by decide) ?_
              have e_mg_X5_goOn_382 : (mg_X5_goOn_382 ru pr hg w se sm) = ((upd pr (Int32.toNatClampNeg w) (mg_X5_goOn_355 ru pr w se sm)) (Int32.toNatClampNeg w)) := by rw [mg_X5_goOn_382, if_neg c5]
              have jj := j400
              rw [e_mg_X5_goOn_382] at jj
              exact jj ls H locs (lv_sub hl [0, 1, 2, 3, 4, 5] rfl) hP hD hS
          refine lv_icmp_ge (tgt := 362) hx hb dX5_goOn_355 (by decide) (fun c4 => ?_) (fun c4 => ?_)
          · refine lv_iload hx hb dX5_goOn_362 (lv_at hl 5 rfl) ?_
            have e_mg_X5_goOn_355 : (mg_X5_goOn_355 ru pr w se sm) = (mg_X5_goOn_288 ru pr w sm) := by rw [mg_X5_goOn_355, if_pos c4]
            have jj := j364
            rw [e_mg_X5_goOn_355] at jj
            exact jj ls H locs (lv_sub hl [0, 1, 2, 3, 4, 5] rfl) hP hD hS
          · refine lv_iload_n hx hb dX5_goOn_358 rfl (lv_at hl 3 rfl) ?_
            refine lv_goto (tgt := 364) hx hb dX5_goOn_359 (by decide) ?_
            have e_mg_X5_goOn_355 : (mg_X5_goOn_355 ru pr w se sm) = se := by rw [mg_X5_goOn_355, if_neg c4]
            have jj := j364
            rw [e_mg_X5_goOn_355] at jj
            exact jj ls H locs (lv_sub hl [0, 1, 2, 3, 4, 5] rfl) hP hD hS
        refine lv_icmp_le (tgt := 335) hx hb dX5_goOn_288 (by decide) (fun c2 => ?_) (fun c2 => ?_)
        · refine lv_iload hx hb dX5_goOn_335 (lv_at hl 0 rfl) ?_
          refine lv_aload_n hx hb dX5_goOn_337 rfl (lv_at hl 1 rfl) ?_
          refine kget (v := .ref (a 2)) C hP igX5 rfl 2 (by decide) wd_2_148 0 rfl rfl dX5_goOn_338 ?_
          refine lv_bipush (v := 9) hx hb dX5_goOn_341 (by decide) ?_
          refine kald C hP 1 rfl (vp_in_iff.mpr (by decide)) (k := 9) rfl dX5_goOn_343 ?_
          refine lv_isub hx hb dX5_goOn_344 ?_
          refine lv_istore (lv' := [(5, .int ((pr (Int32.toNatClampNeg w)) - (ru 9))), (0, .ref (a 0)), (1, .int w), (2, .int sh), (3, .int se), (4, .int sm)]) hx hb dX5_goOn_345 hl (by decide) rfl (fun ls hl => ?_)
          have e_mg_X5_goOn_288 : (mg_X5_goOn_288 ru pr w sm) = ((pr (Int32.toNatClampNeg w)) - (ru 9)) := by rw [mg_X5_goOn_288, if_pos c2]
          have jj := j347
          rw [e_mg_X5_goOn_288] at jj
          exact jj ls H locs (lv_sub hl [1, 2, 3, 4, 5, 0] rfl) hP hD hS
        · refine lv_iload hx hb dX5_goOn_291 (lv_at hl 0 rfl) ?_
          refine lv_iload hx hb dX5_goOn_293 (lv_at hl 5 rfl) ?_
          refine lv_aload_n hx hb dX5_goOn_295 rfl (lv_at hl 1 rfl) ?_
          refine kget (v := .ref (a 2)) C hP igX5 rfl 2 (by decide) wd_2_148 0 rfl rfl dX5_goOn_296 ?_
          refine lv_bipush (v := 7) hx hb dX5_goOn_299 (by decide) ?_
          refine kald C hP 1 rfl (vp_in_iff.mpr (by decide)) (k := 7) rfl dX5_goOn_301 ?_
          refine lv_isub hx hb dX5_goOn_302 ?_
          refine lv_aload_n hx hb dX5_goOn_303 rfl (lv_at hl 1 rfl) ?_
          refine kget (v := .ref (a 2)) C hP igX5 rfl 2 (by decide) wd_2_148 0 rfl rfl dX5_goOn_304 ?_
          refine lv_bipush (v := 8) hx hb dX5_goOn_307 (by decide) ?_
          refine kald C hP 1 rfl (vp_in_iff.mpr (by decide)) (k := 8) rfl dX5_goOn_309 ?_
          refine lv_idiv hx hb dX5_goOn_310 hg8 ?_
          refine lv_iadd hx hb dX5_goOn_311 ?_
          refine lv_istore (lv' := [(5, .int ((pr (Int32.toNatClampNeg w)) + ((sm - (ru 7)) / (ru 8)))), (0, .ref (a 0)), (1, .int w), (2, .int sh), (3, .int se), (4, .int sm)]) hx hb dX5_goOn_312 hl (by decide) rfl (fun ls hl => ?_)
          refine lv_iload hx hb dX5_goOn_314 (lv_at hl 0 rfl) ?_
          refine lv_sipush (v := 20000) hx hb dX5_goOn_316 (by decide) ?_
          have j330 : ∀ (ls : Array Slot) (H : Heap) (locs : List Loc), lv_has ls 10 [(0, .ref (a 0)), (1, .int w), (2, .int sh), (3, .int se), (4, .int sm), (5, .int ((pr (Int32.toNatClampNeg w)) + ((sm - (ru 7)) / (ru 8))))] → va_P D vwCl [yc a Y, ac cI (a 2) 11 ru, ac cI (a 6) 48 ic, ac cI (a 7) 48 wm, ac cI (a 8) 48 ga, ac cI (a 9) 48 fe, ac cI (a 10) 48 dr, ac cI (a 11) 2 mn, ac cI (a 12) 2 pr, ac cI (a 13) 2 hg, ac cI (a 14) 2 (upd al (Int32.toNatClampNeg w) sm), ac cI (a 15) 2 (upd sd (Int32.toNatClampNeg w) ((sd (Int32.toNatClampNeg w)) + sm))] H → va_D A [yc a Y, ac cI (a 2) 11 ru, ac cI (a 6) 48 ic, ac cI (a 7) 48 wm, ac cI (a 8) 48 ga, ac cI (a 9) 48 fe, ac cI (a 10) 48 dr, ac cI (a 11) 2 mn, ac cI (a 12) 2 pr, ac cI (a 13) 2 hg, ac cI (a 14) 2 (upd al (Int32.toNatClampNeg w) sm), ac cI (a 15) 2 (upd sd (Int32.toNatClampNeg w) ((sd (Int32.toNatClampNeg w)) + sm))] → va_S A s.heap H locs → W p l e (RM 5 118) s m args below meth c H locs 0 0 Q (F0 m 330 ls [.int (mg_X5_goOn_319 ru pr w sm)]) := by
            intro ls H locs hl hP hD hS
            refine lv_istore (lv' := [(5, .int (mg_X5_goOn_319 ru pr w sm)), (0, .ref (a 0)), (1, .int w), (2, .int sh), (3, .int se), (4, .int sm)]) hx hb dX5_goOn_330 hl (by decide) rfl (fun ls hl => ?_)
            refine lv_goto (tgt := 347) hx hb dX5_goOn_332 (by decide) ?_
            have e_mg_X5_goOn_288 : (mg_X5_goOn_288 ru pr w sm) = (mg_X5_goOn_319 ru pr w sm) := by rw [mg_X5_goOn_288, if_neg c2]
            have jj := j347
            rw [e_mg_X5_goOn_288] at jj
            exact jj ls H locs (lv_sub hl [1, 2, 3, 4, 5, 0] rfl) hP hD hS
          refine lv_icmp_le (tgt := 328) hx hb dX5_goOn_319 (by decide) (fun c3 => ?_) (fun c3 => ?_)
          · refine lv_iload hx hb dX5_goOn_328 (lv_at hl 0 rfl) ?_
            have e_mg_X5_goOn_319 : (mg_X5_goOn_319 ru pr w sm) = ((pr (Int32.toNatClampNeg w)) + ((sm - (ru 7)) / (ru 8))) := by rw [mg_X5_goOn_319, if_pos c3]
            have jj := j330
            rw [e_mg_X5_goOn_319] at jj
            exact jj ls H locs (lv_sub hl [1, 2, 3, 4, 5, 0] rfl) hP hD hS
          · refine lv_sipush (v := 20000) hx hb dX5_goOn_322 (by decide) ?_
            refine lv_goto (tgt := 330) hx hb dX5_goOn_325 (by decide) ?_
            have e_mg_X5_goOn_319 : (mg_X5_goOn_319 ru pr w sm) = 20000 := by rw [mg_X5_goOn_319, if_neg c3]
            have jj := j330
            rw [e_mg_X5_goOn_319] at jj
            exact jj ls H locs (lv_sub hl [1, 2, 3, 4, 5, 0] rfl) hP hD hS
      · have hk : vp_in ((24 * w) + i) 48 := in48 hw (inV h0 hv c1)
        have hbz := hI i (Int.le_refl _) (ltV c1)
        refine lv_bipush (v := 24) hx hb dX5_goOn_15 (by decide) ?_
        refine lv_iload_n hx hb dX5_goOn_17 rfl (lv_at hl 1 rfl) ?_
        refine lv_imul hx hb dX5_goOn_18 ?_
        refine lv_iload hx hb dX5_goOn_19 (lv_at hl 5 rfl) ?_
        refine lv_iadd hx hb dX5_goOn_21 ?_
        refine lv_istore (lv' := [(6, .int ((24 * w) + i)), (0, .ref (a 0)), (1, .int w), (2, .int sh), (3, .int se), (4, .int sm), (5, .int i)]) hx hb dX5_goOn_22 hl (by decide) rfl (fun ls hl => ?_)
        refine lv_aload_n hx hb dX5_goOn_24 rfl (lv_at hl 1 rfl) ?_
        refine kget (v := .ref (a 6)) C hP igX5 rfl 6 (by decide) wd_2_152 0 rfl rfl dX5_goOn_25 ?_
        refine lv_iload hx hb dX5_goOn_28 (lv_at hl 0 rfl) ?_
        refine kald C hP 2 rfl hk (k := (Int32.toNatClampNeg ((24 * w) + i))) rfl dX5_goOn_30 ?_
        refine lv_if_ne (tgt := 53) hx hb dX5_goOn_31 (by decide) (fun c6 => ?_) (fun c6 => ?_)
        · refine lv_aload_n hx hb dX5_goOn_53 rfl (lv_at hl 1 rfl) ?_
          refine lv_iload_n hx hb dX5_goOn_54 rfl (lv_at hl 2 rfl) ?_
          refine lv_iload hx hb dX5_goOn_55 (lv_at hl 6 rfl) ?_
          refine lv_iload_n hx hb dX5_goOn_57 rfl (lv_at hl 3 rfl) ?_
          refine go_i (ws' := [yc a Y, ac cI (a 2) 11 ru, ac cI (a 6) 48 ic, ac cI (a 7) 48 wm, ac cI (a 8) 48 ga, ac cI (a 9) 48 fe, ac cI (a 10) 48 dr, ac cI (a 11) 2 mn, ac cI (a 12) 2 pr, ac cI (a 13) 2 hg, ac cI (a 14) 2 al, ac cI (a 15) 2 sd]) C (rn_V (As := [.int w, .int i, .int sh]) (rest := []) C (c_X5_warmthOf l D cI a Y ru ic pr w i sh hw hk hf hc hbz H.size) ck_X5_warmthOf wd_3_52 wd_0_10 wd_3_50 ⟨Nat.le_of_ble_eq_true rfl, Nat.le_of_ble_eq_true rfl⟩ ⟨Nat.le_refl _, Nat.le_refl _⟩ (ci := 5) (q0 := 0) rfl rfl hP hD hS [0, 1, 2, 8] rfl rfl hl rfl (Nat.le_of_ble_eq_true rfl) dX5_goOn_58) hP hD hS [0, 1, 2, 8] rfl rfl rfl (fun H locs hP hD hS => ?_)
          refine lv_istore (lv' := [(7, .int (r_X5_warmthOf Y ru ic pr w i sh)), (6, .int ((24 * w) + i)), (0, .ref (a 0)), (1, .int w), (2, .int sh), (3, .int se), (4, .int sm), (5, .int i)]) hx hb dX5_goOn_61 hl (by decide) rfl (fun ls hl => ?_)
          refine lv_bipush (v := 100) hx hb dX5_goOn_63 (by decide) ?_
          refine lv_aload_n hx hb dX5_goOn_65 rfl (lv_at hl 2 rfl) ?_
          refine kget (v := .ref (a 2)) C hP igX5 rfl 2 (by decide) wd_2_148 0 rfl rfl dX5_goOn_66 ?_
          refine lv_iconst (v := 0) hx hb dX5_goOn_69 (by decide) ?_
          refine kald C hP 1 rfl (vp_in_iff.mpr (by decide)) (k := 0) rfl dX5_goOn_70 ?_
          refine lv_aload_n hx hb dX5_goOn_71 rfl (lv_at hl 2 rfl) ?_
          refine kget (v := .ref (a 6)) C hP igX5 rfl 6 (by decide) wd_2_152 0 rfl rfl dX5_goOn_72 ?_
          refine lv_iload hx hb dX5_goOn_75 (lv_at hl 1 rfl) ?_
          refine kald C hP 2 rfl hk (k := (Int32.toNatClampNeg ((24 * w) + i))) rfl dX5_goOn_77 ?_
          refine lv_isub hx hb dX5_goOn_78 ?_
          refine lv_imul hx hb dX5_goOn_79 ?_
          refine lv_aload_n hx hb dX5_goOn_80 rfl (lv_at hl 2 rfl) ?_
          refine kget (v := .ref (a 2)) C hP igX5 rfl 2 (by decide) wd_2_148 0 rfl rfl dX5_goOn_81 ?_
          refine lv_iconst (v := 0) hx hb dX5_goOn_84 (by decide) ?_
          refine kald C hP 1 rfl (vp_in_iff.mpr (by decide)) (k := 0) rfl dX5_goOn_85 ?_
          refine lv_idiv hx hb dX5_goOn_86 hf ?_
          refine lv_istore (lv' := [(8, .int ((100 * ((ru 0) - (ic (Int32.toNatClampNeg ((24 * w) + i))))) / (ru 0))), (7, .int (r_X5_warmthOf Y ru ic pr w i sh)), (6, .int ((24 * w) + i)), (0, .ref (a 0)), (1, .int w), (2, .int sh), (3, .int se), (4, .int sm), (5, .int i)]) hx hb dX5_goOn_87 hl (by decide) rfl (fun ls hl => ?_)
          refine lv_aload_n hx hb dX5_goOn_89 rfl (lv_at hl 3 rfl) ?_
          refine lv_iload hx hb dX5_goOn_90 (lv_at hl 1 rfl) ?_
          refine lv_iload hx hb dX5_goOn_92 (lv_at hl 0 rfl) ?_
          refine lv_aload_n hx hb dX5_goOn_94 rfl (lv_at hl 3 rfl) ?_
          refine kget (v := .ref (a 12)) C hP igX5 rfl 12 (by decide) wd_2_158 0 rfl rfl dX5_goOn_95 ?_
          refine lv_iload_n hx hb dX5_goOn_98 rfl (lv_at hl 4 rfl) ?_
          refine kald C hP 8 rfl (in2 hw) (k := (Int32.toNatClampNeg w)) rfl dX5_goOn_99 ?_
          refine go_i (ws' := [yc a Y, ac cI (a 2) 11 ru, ac cI (a 6) 48 ic, ac cI (a 7) 48 wm, ac cI (a 8) 48 ga, ac cI (a 9) 48 fe, ac cI (a 10) 48 dr, ac cI (a 11) 2 mn, ac cI (a 12) 2 pr, ac cI (a 13) 2 hg, ac cI (a 14) 2 al, ac cI (a 15) 2 sd]) C (rn_V (As := [.int (r_X5_warmthOf Y ru ic pr w i sh), .int ((100 * ((ru 0) - (ic (Int32.toNatClampNeg ((24 * w) + i))))) / (ru 0)), .int (pr (Int32.toNatClampNeg w))]) (rest := []) C (c_X5_steamAt l D cI a Y ru (r_X5_warmthOf Y ru ic pr w i sh) ((100 * ((ru 0) - (ic (Int32.toNatClampNeg ((24 * w) + i))))) / (ru 0)) (pr (Int32.toNatClampNeg w)) hbz H.size) ck_X5_steamAt wd_3_13 wd_0_6 wd_3_11 ⟨Nat.le_of_ble_eq_true rfl, Nat.le_of_ble_eq_true rfl⟩ ⟨Nat.le_refl _, Nat.le_refl _⟩ (ci := 5) (q0 := 0) rfl rfl hP hD hS [0, 1] rfl rfl hl rfl (Nat.le_of_ble_eq_true rfl) dX5_goOn_100) hP hD hS [0, 1] rfl rfl rfl (fun H locs hP hD hS => ?_)
          refine lv_istore (lv' := [(9, .int (r_X5_steamAt ru (r_X5_warmthOf Y ru ic pr w i sh) ((100 * ((ru 0) - (ic (Int32.toNatClampNeg ((24 * w) + i))))) / (ru 0)) (pr (Int32.toNatClampNeg w)))), (8, .int ((100 * ((ru 0) - (ic (Int32.toNatClampNeg ((24 * w) + i))))) / (ru 0))), (7, .int (r_X5_warmthOf Y ru ic pr w i sh)), (6, .int ((24 * w) + i)), (0, .ref (a 0)), (1, .int w), (2, .int sh), (3, .int se), (4, .int sm), (5, .int i)]) hx hb dX5_goOn_103 hl (by decide) rfl (fun ls hl => ?_)
          refine lv_iload hx hb dX5_goOn_105 (lv_at hl 0 rfl) ?_
          refine lv_aload_n hx hb dX5_goOn_107 rfl (lv_at hl 4 rfl) ?_
          refine kget (v := .ref (a 6)) C hP igX5 rfl 6 (by decide) wd_2_152 0 rfl rfl dX5_goOn_108 ?_
          refine lv_iload hx hb dX5_goOn_111 (lv_at hl 3 rfl) ?_
          refine kald C hP 2 rfl hk (k := (Int32.toNatClampNeg ((24 * w) + i))) rfl dX5_goOn_113 ?_
          have j129 : ∀ (ls : Array Slot) (H : Heap) (locs : List Loc), lv_has ls 10 [(0, .ref (a 0)), (1, .int w), (2, .int sh), (3, .int se), (4, .int sm), (5, .int i), (6, .int ((24 * w) + i)), (7, .int (r_X5_warmthOf Y ru ic pr w i sh)), (8, .int ((100 * ((ru 0) - (ic (Int32.toNatClampNeg ((24 * w) + i))))) / (ru 0))), (9, .int (r_X5_steamAt ru (r_X5_warmthOf Y ru ic pr w i sh) ((100 * ((ru 0) - (ic (Int32.toNatClampNeg ((24 * w) + i))))) / (ru 0)) (pr (Int32.toNatClampNeg w))))] → va_P D vwCl [yc a Y, ac cI (a 2) 11 ru, ac cI (a 6) 48 ic, ac cI (a 7) 48 wm, ac cI (a 8) 48 ga, ac cI (a 9) 48 fe, ac cI (a 10) 48 dr, ac cI (a 11) 2 mn, ac cI (a 12) 2 pr, ac cI (a 13) 2 hg, ac cI (a 14) 2 al, ac cI (a 15) 2 sd] H → va_D A [yc a Y, ac cI (a 2) 11 ru, ac cI (a 6) 48 ic, ac cI (a 7) 48 wm, ac cI (a 8) 48 ga, ac cI (a 9) 48 fe, ac cI (a 10) 48 dr, ac cI (a 11) 2 mn, ac cI (a 12) 2 pr, ac cI (a 13) 2 hg, ac cI (a 14) 2 al, ac cI (a 15) 2 sd] → va_S A s.heap H locs → W p l e (RM 5 118) s m args below meth c H locs 0 0 Q (F0 m 129 ls [.int (mg_X5_goOn_114 Y ru pr w sh i ic)]) := by
            intro ls H locs hl hP hD hS
            refine lv_istore (lv' := [(9, .int (mg_X5_goOn_114 Y ru pr w sh i ic)), (0, .ref (a 0)), (1, .int w), (2, .int sh), (3, .int se), (4, .int sm), (5, .int i), (6, .int ((24 * w) + i)), (7, .int (r_X5_warmthOf Y ru ic pr w i sh)), (8, .int ((100 * ((ru 0) - (ic (Int32.toNatClampNeg ((24 * w) + i))))) / (ru 0)))]) hx hb dX5_goOn_129 hl (by decide) rfl (fun ls hl => ?_)
            refine lv_aload_n hx hb dX5_goOn_131 rfl (lv_at hl 1 rfl) ?_
            refine kget (v := .ref (a 7)) C hP igX5 rfl 7 (by decide) wd_2_153 0 rfl rfl dX5_goOn_132 ?_
            refine lv_iload hx hb dX5_goOn_135 (lv_at hl 7 rfl) ?_
            refine lv_iload hx hb dX5_goOn_137 (lv_at hl 8 rfl) ?_
            refine kast (ws' := [yc a Y, ac cI (a 2) 11 ru, ac cI (a 6) 48 ic, ac cI (a 7) 48 (upd wm (Int32.toNatClampNeg ((24 * w) + i)) (r_X5_warmthOf Y ru ic pr w i sh)), ac cI (a 8) 48 ga, ac cI (a 9) 48 fe, ac cI (a 10) 48 dr, ac cI (a 11) 2 mn, ac cI (a 12) 2 pr, ac cI (a 13) 2 hg, ac cI (a 14) 2 al, ac cI (a 15) 2 sd]) C hP hD hS 3 rfl hk (k := (Int32.toNatClampNeg ((24 * w) + i))) rfl rfl dX5_goOn_139 (fun H locs hP hD hS => ?_)
            refine lv_aload_n hx hb dX5_goOn_140 rfl (lv_at hl 1 rfl) ?_
            refine kget (v := .ref (a 8)) C hP igX5 rfl 8 (by decide) wd_2_154 0 rfl rfl dX5_goOn_141 ?_
            refine lv_iload hx hb dX5_goOn_144 (lv_at hl 7 rfl) ?_
            refine lv_iload hx hb dX5_goOn_146 (lv_at hl 0 rfl) ?_
            refine kast (ws' := [yc a Y, ac cI (a 2) 11 ru, ac cI (a 6) 48 ic, ac cI (a 7) 48 (upd wm (Int32.toNatClampNeg ((24 * w) + i)) (r_X5_warmthOf Y ru ic pr w i sh)), ac cI (a 8) 48 (upd ga (Int32.toNatClampNeg ((24 * w) + i)) (mg_X5_goOn_114 Y ru pr w sh i ic)), ac cI (a 9) 48 fe, ac cI (a 10) 48 dr, ac cI (a 11) 2 mn, ac cI (a 12) 2 pr, ac cI (a 13) 2 hg, ac cI (a 14) 2 al, ac cI (a 15) 2 sd]) C hP hD hS 4 rfl hk (k := (Int32.toNatClampNeg ((24 * w) + i))) rfl rfl dX5_goOn_148 (fun H locs hP hD hS => ?_)
            refine lv_aload_n hx hb dX5_goOn_149 rfl (lv_at hl 1 rfl) ?_
            refine kget (v := .ref (a 6)) C hP igX5 rfl 6 (by decide) wd_2_152 0 rfl rfl dX5_goOn_150 ?_
            refine lv_iload hx hb dX5_goOn_153 (lv_at hl 7 rfl) ?_
            refine lv_dup2_11 hx hb dX5_goOn_155 rfl rfl ?_
            refine kald C hP 2 rfl hk (k := (Int32.toNatClampNeg ((24 * w) + i))) rfl dX5_goOn_156 ?_
            refine lv_iload hx hb dX5_goOn_157 (lv_at hl 0 rfl) ?_
            refine lv_isub hx hb dX5_goOn_159 ?_
            refine kast (ws' := [yc a Y, ac cI (a 2) 11 ru, ac cI (a 6) 48 (upd ic (Int32.toNatClampNeg ((24 * w) + i)) ((ic (Int32.toNatClampNeg ((24 * w) + i))) - (mg_X5_goOn_114 Y ru pr w sh i ic))), ac cI (a 7) 48 (upd wm (Int32.toNatClampNeg ((24 * w) + i)) (r_X5_warmthOf Y ru ic pr w i sh)), ac cI (a 8) 48 (upd ga (Int32.toNatClampNeg ((24 * w) + i)) (mg_X5_goOn_114 Y ru pr w sh i ic)), ac cI (a 9) 48 fe, ac cI (a 10) 48 dr, ac cI (a 11) 2 mn, ac cI (a 12) 2 pr, ac cI (a 13) 2 hg, ac cI (a 14) 2 al, ac cI (a 15) 2 sd]) C hP hD hS 2 rfl hk (k := (Int32.toNatClampNeg ((24 * w) + i))) rfl rfl dX5_goOn_160 (fun H locs hP hD hS => ?_)
            refine lv_iload hx hb dX5_goOn_161 (lv_at hl 5 rfl) ?_
            refine lv_iload hx hb dX5_goOn_163 (lv_at hl 0 rfl) ?_
            refine lv_iadd hx hb dX5_goOn_165 ?_
            refine lv_istore (lv' := [(4, .int (sm + (mg_X5_goOn_114 Y ru pr w sh i ic))), (9, .int (mg_X5_goOn_114 Y ru pr w sh i ic)), (0, .ref (a 0)), (1, .int w), (2, .int sh), (3, .int se), (5, .int i), (6, .int ((24 * w) + i)), (7, .int (r_X5_warmthOf Y ru ic pr w i sh)), (8, .int ((100 * ((ru 0) - (ic (Int32.toNatClampNeg ((24 * w) + i))))) / (ru 0)))]) hx hb dX5_goOn_166 hl (by decide) rfl (fun ls hl => ?_)
            refine lv_aload_n hx hb dX5_goOn_168 rfl (lv_at hl 2 rfl) ?_
            refine kget (v := .ref (a 9)) C hP igX5 rfl 9 (by decide) wd_2_155 0 rfl rfl dX5_goOn_169 ?_
            refine lv_iload hx hb dX5_goOn_172 (lv_at hl 7 rfl) ?_
            refine lv_iload hx hb dX5_goOn_174 (lv_at hl 8 rfl) ?_
            refine lv_aload_n hx hb dX5_goOn_176 rfl (lv_at hl 2 rfl) ?_
            refine kget (v := .ref (a 2)) C hP igX5 rfl 2 (by decide) wd_2_148 0 rfl rfl dX5_goOn_177 ?_
            refine lv_bipush (v := 6) hx hb dX5_goOn_180 (by decide) ?_
            refine kald C hP 1 rfl (vp_in_iff.mpr (by decide)) (k := 6) rfl dX5_goOn_182 ?_
            have j212 : ∀ (ls : Array Slot) (H : Heap) (locs : List Loc), lv_has ls 10 [(0, .ref (a 0)), (1, .int w), (2, .int sh), (3, .int se), (4, .int (sm + (mg_X5_goOn_114 Y ru pr w sh i ic))), (5, .int i), (6, .int ((24 * w) + i)), (7, .int (r_X5_warmthOf Y ru ic pr w i sh)), (8, .int ((100 * ((ru 0) - (ic (Int32.toNatClampNeg ((24 * w) + i))))) / (ru 0))), (9, .int (mg_X5_goOn_114 Y ru pr w sh i ic))] → va_P D vwCl [yc a Y, ac cI (a 2) 11 ru, ac cI (a 6) 48 (upd ic (Int32.toNatClampNeg ((24 * w) + i)) ((ic (Int32.toNatClampNeg ((24 * w) + i))) - (mg_X5_goOn_114 Y ru pr w sh i ic))), ac cI (a 7) 48 (upd wm (Int32.toNatClampNeg ((24 * w) + i)) (r_X5_warmthOf Y ru ic pr w i sh)), ac cI (a 8) 48 (upd ga (Int32.toNatClampNeg ((24 * w) + i)) (mg_X5_goOn_114 Y ru pr w sh i ic)), ac cI (a 9) 48 fe, ac cI (a 10) 48 dr, ac cI (a 11) 2 mn, ac cI (a 12) 2 pr, ac cI (a 13) 2 hg, ac cI (a 14) 2 al, ac cI (a 15) 2 sd] H → va_D A [yc a Y, ac cI (a 2) 11 ru, ac cI (a 6) 48 (upd ic (Int32.toNatClampNeg ((24 * w) + i)) ((ic (Int32.toNatClampNeg ((24 * w) + i))) - (mg_X5_goOn_114 Y ru pr w sh i ic))), ac cI (a 7) 48 (upd wm (Int32.toNatClampNeg ((24 * w) + i)) (r_X5_warmthOf Y ru ic pr w i sh)), ac cI (a 8) 48 (upd ga (Int32.toNatClampNeg ((24 * w) + i)) (mg_X5_goOn_114 Y ru pr w sh i ic)), ac cI (a 9) 48 fe, ac cI (a 10) 48 dr, ac cI (a 11) 2 mn, ac cI (a 12) 2 pr, ac cI (a 13) 2 hg, ac cI (a 14) 2 al, ac cI (a 15) 2 sd] → va_S A s.heap H locs → W p l e (RM 5 118) s m args below meth c H locs 0 0 Q (F0 m 212 ls [.int (mg_X5_goOn_183 Y ru mn pr w sh i ic fe), .int ((24 * w) + i), .ref (a 9)]) := by
              intro ls H locs hl hP hD hS
              refine kast (ws' := [yc a Y, ac cI (a 2) 11 ru, ac cI (a 6) 48 (upd ic (Int32.toNatClampNeg ((24 * w) + i)) ((ic (Int32.toNatClampNeg ((24 * w) + i))) - (mg_X5_goOn_114 Y ru pr w sh i ic))), ac cI (a 7) 48 (upd wm (Int32.toNatClampNeg ((24 * w) + i)) (r_X5_warmthOf Y ru ic pr w i sh)), ac cI (a 8) 48 (upd ga (Int32.toNatClampNeg ((24 * w) + i)) (mg_X5_goOn_114 Y ru pr w sh i ic)), ac cI (a 9) 48 (upd fe (Int32.toNatClampNeg ((24 * w) + i)) (mg_X5_goOn_183 Y ru mn pr w sh i ic fe)), ac cI (a 10) 48 dr, ac cI (a 11) 2 mn, ac cI (a 12) 2 pr, ac cI (a 13) 2 hg, ac cI (a 14) 2 al, ac cI (a 15) 2 sd]) C hP hD hS 5 rfl hk (k := (Int32.toNatClampNeg ((24 * w) + i))) rfl rfl dX5_goOn_212 (fun H locs hP hD hS => ?_)
              refine lv_aload_n hx hb dX5_goOn_213 rfl (lv_at hl 0 rfl) ?_
              refine kget (v := .ref (a 10)) C hP igX5 rfl 10 (by decide) wd_2_156 0 rfl rfl dX5_goOn_214 ?_
              refine lv_iload hx hb dX5_goOn_217 (lv_at hl 6 rfl) ?_
              refine lv_aload_n hx hb dX5_goOn_219 rfl (lv_at hl 0 rfl) ?_
              refine kget (v := .ref (a 6)) C hP igX5 rfl 6 (by decide) wd_2_152 0 rfl rfl dX5_goOn_220 ?_
              refine lv_iload hx hb dX5_goOn_223 (lv_at hl 6 rfl) ?_
              refine kald C hP 2 rfl hk (k := (Int32.toNatClampNeg ((24 * w) + i))) rfl dX5_goOn_225 ?_
              have j245 : ∀ (ls : Array Slot) (H : Heap) (locs : List Loc), lv_has ls 10 [(0, .ref (a 0)), (1, .int w), (2, .int sh), (3, .int se), (4, .int (sm + (mg_X5_goOn_114 Y ru pr w sh i ic))), (5, .int i), (6, .int ((24 * w) + i)), (7, .int (r_X5_warmthOf Y ru ic pr w i sh)), (8, .int ((100 * ((ru 0) - (ic (Int32.toNatClampNeg ((24 * w) + i))))) / (ru 0))), (9, .int (mg_X5_goOn_114 Y ru pr w sh i ic))] → va_P D vwCl [yc a Y, ac cI (a 2) 11 ru, ac cI (a 6) 48 (upd ic (Int32.toNatClampNeg ((24 * w) + i)) ((ic (Int32.toNatClampNeg ((24 * w) + i))) - (mg_X5_goOn_114 Y ru pr w sh i ic))), ac cI (a 7) 48 (upd wm (Int32.toNatClampNeg ((24 * w) + i)) (r_X5_warmthOf Y ru ic pr w i sh)), ac cI (a 8) 48 (upd ga (Int32.toNatClampNeg ((24 * w) + i)) (mg_X5_goOn_114 Y ru pr w sh i ic)), ac cI (a 9) 48 (upd fe (Int32.toNatClampNeg ((24 * w) + i)) (mg_X5_goOn_183 Y ru mn pr w sh i ic fe)), ac cI (a 10) 48 dr, ac cI (a 11) 2 mn, ac cI (a 12) 2 pr, ac cI (a 13) 2 hg, ac cI (a 14) 2 al, ac cI (a 15) 2 sd] H → va_D A [yc a Y, ac cI (a 2) 11 ru, ac cI (a 6) 48 (upd ic (Int32.toNatClampNeg ((24 * w) + i)) ((ic (Int32.toNatClampNeg ((24 * w) + i))) - (mg_X5_goOn_114 Y ru pr w sh i ic))), ac cI (a 7) 48 (upd wm (Int32.toNatClampNeg ((24 * w) + i)) (r_X5_warmthOf Y ru ic pr w i sh)), ac cI (a 8) 48 (upd ga (Int32.toNatClampNeg ((24 * w) + i)) (mg_X5_goOn_114 Y ru pr w sh i ic)), ac cI (a 9) 48 (upd fe (Int32.toNatClampNeg ((24 * w) + i)) (mg_X5_goOn_183 Y ru mn pr w sh i ic fe)), ac cI (a 10) 48 dr, ac cI (a 11) 2 mn, ac cI (a 12) 2 pr, ac cI (a 13) 2 hg, ac cI (a 14) 2 al, ac cI (a 15) 2 sd] → va_S A s.heap H locs → W p l e (RM 5 118) s m args below meth c H locs 0 0 Q (F0 m 245 ls [.int (mg_X5_goOn_226 Y ru mn pr w sh i ic dr), .int ((24 * w) + i), .ref (a 10)]) := by
                intro ls H locs hl hP hD hS
                refine kast (ws' := [yc a Y, ac cI (a 2) 11 ru, ac cI (a 6) 48 (upd ic (Int32.toNatClampNeg ((24 * w) + i)) ((ic (Int32.toNatClampNeg ((24 * w) + i))) - (mg_X5_goOn_114 Y ru pr w sh i ic))), ac cI (a 7) 48 (upd wm (Int32.toNatClampNeg ((24 * w) + i)) (r_X5_warmthOf Y ru ic pr w i sh)), ac cI (a 8) 48 (upd ga (Int32.toNatClampNeg ((24 * w) + i)) (mg_X5_goOn_114 Y ru pr w sh i ic)), ac cI (a 9) 48 (upd fe (Int32.toNatClampNeg ((24 * w) + i)) (mg_X5_goOn_183 Y ru mn pr w sh i ic fe)), ac cI (a 10) 48 (upd dr (Int32.toNatClampNeg ((24 * w) + i)) (mg_X5_goOn_226 Y ru mn pr w sh i ic dr)), ac cI (a 11) 2 mn, ac cI (a 12) 2 pr, ac cI (a 13) 2 hg, ac cI (a 14) 2 al, ac cI (a 15) 2 sd]) C hP hD hS 6 rfl hk (k := (Int32.toNatClampNeg ((24 * w) + i))) rfl rfl dX5_goOn_245 (fun H locs hP hD hS => ?_)
                refine lv_iinc (v := (i + 1)) (lv' := [(5, .int (i + 1)), (0, .ref (a 0)), (1, .int w), (2, .int sh), (3, .int se), (4, .int (sm + (mg_X5_goOn_114 Y ru pr w sh i ic))), (6, .int ((24 * w) + i)), (7, .int (r_X5_warmthOf Y ru ic pr w i sh)), (8, .int ((100 * ((ru 0) - (ic (Int32.toNatClampNeg ((24 * w) + i))))) / (ru 0))), (9, .int (mg_X5_goOn_114 Y ru pr w sh i ic))]) hx hb dX5_goOn_246 hl (k := 5) rfl rfl (by decide) rfl (fun ls hl => ?_)
                refine lv_goto (tgt := 6) hx hb dX5_goOn_249 (by decide) ?_
                exact ih (sm + (mg_X5_goOn_114 Y ru pr w sh i ic)) (i + 1) (upd ic (Int32.toNatClampNeg ((24 * w) + i)) ((ic (Int32.toNatClampNeg ((24 * w) + i))) - (mg_X5_goOn_114 Y ru pr w sh i ic))) (upd wm (Int32.toNatClampNeg ((24 * w) + i)) (r_X5_warmthOf Y ru ic pr w i sh)) (upd ga (Int32.toNatClampNeg ((24 * w) + i)) (mg_X5_goOn_114 Y ru pr w sh i ic)) (upd fe (Int32.toNatClampNeg ((24 * w) + i)) (mg_X5_goOn_183 Y ru mn pr w sh i ic fe)) (upd dr (Int32.toNatClampNeg ((24 * w) + i)) (mg_X5_goOn_226 Y ru mn pr w sh i ic dr)) (inc0 h0 c1) (okB_upd hw h0 hv c1 hI) (cnt2_lt c1 hm) (by rw [← ho_ic, lq_X5_goOn_6_ic, if_neg c1, if_neg c6]) (by rw [← ho_wm, lq_X5_goOn_6_wm, if_neg c1, if_neg c6]) (by rw [← ho_ga, lq_X5_goOn_6_ga, if_neg c1, if_neg c6]) (by rw [← ho_fe, lq_X5_goOn_6_fe, if_neg c1, if_neg c6]) (by rw [← ho_dr, lq_X5_goOn_6_dr, if_neg c1, if_neg c6]) (by rw [← ho_mn, lq_X5_goOn_6_mn, if_neg c1, if_neg c6]) (by rw [← ho_pr, lq_X5_goOn_6_pr, if_neg c1, if_neg c6]) (by rw [← ho_hg, lq_X5_goOn_6_hg, if_neg c1, if_neg c6]) (by rw [← ho_al, lq_X5_goOn_6_al, if_neg c1, if_neg c6]) (by rw [← ho_sd, lq_X5_goOn_6_sd, if_neg c1, if_neg c6]) ls H locs (lv_sub hl [1, 2, 3, 4, 5, 0] rfl) hP hD hS
              refine lv_if_ne (tgt := 238) hx hb dX5_goOn_226 (by decide) (fun c10 => ?_) (fun c10 => ?_)
              · refine lv_aload_n hx hb dX5_goOn_238 rfl (lv_at hl 0 rfl) ?_
                refine kget (v := .ref (a 10)) C hP igX5 rfl 10 (by decide) wd_2_156 0 rfl rfl dX5_goOn_239 ?_
                refine lv_iload hx hb dX5_goOn_242 (lv_at hl 6 rfl) ?_
                refine kald C hP 6 rfl hk (k := (Int32.toNatClampNeg ((24 * w) + i))) rfl dX5_goOn_244 ?_
                have e_mg_X5_goOn_226 : (mg_X5_goOn_226 Y ru mn pr w sh i ic dr) = (dr (Int32.toNatClampNeg ((24 * w) + i))) := by rw [mg_X5_goOn_226, if_neg c10]
                have jj := j245
                rw [e_mg_X5_goOn_226] at jj
                exact jj ls H locs (lv_sub hl [0, 1, 2, 3, 4, 5, 6, 7, 8, 9] rfl) hP hD hS
              · refine lv_aload_n hx hb dX5_goOn_229 rfl (lv_at hl 0 rfl) ?_
                refine kget (v := .ref (a 11)) C hP igX5 rfl 11 (by decide) wd_2_157 0 rfl rfl dX5_goOn_230 ?_
                refine lv_iload_n hx hb dX5_goOn_233 rfl (lv_at hl 1 rfl) ?_
                refine kald C hP 7 rfl (in2 hw) (k := (Int32.toNatClampNeg w)) rfl dX5_goOn_234 ?_
                refine lv_goto (tgt := 245) hx hb dX5_goOn_235 (by decide) ?_
                have e_mg_X5_goOn_226 : (mg_X5_goOn_226 Y ru mn pr w sh i ic dr) = (mn (Int32.toNatClampNeg w)) := by rw [mg_X5_goOn_226, if_pos c10]
                have jj := j245
                rw [e_mg_X5_goOn_226] at jj
                exact jj ls H locs (lv_sub hl [0, 1, 2, 3, 4, 5, 6, 7, 8, 9] rfl) hP hD hS
            refine lv_icmp_le (tgt := 205) hx hb dX5_goOn_183 (by decide) (fun c8 => ?_) (fun c8 => ?_)
            · refine lv_aload_n hx hb dX5_goOn_205 rfl (lv_at hl 2 rfl) ?_
              refine kget (v := .ref (a 9)) C hP igX5 rfl 9 (by decide) wd_2_155 0 rfl rfl dX5_goOn_206 ?_
              refine lv_iload hx hb dX5_goOn_209 (lv_at hl 7 rfl) ?_
              refine kald C hP 5 rfl hk (k := (Int32.toNatClampNeg ((24 * w) + i))) rfl dX5_goOn_211 ?_
              have e_mg_X5_goOn_183 : (mg_X5_goOn_183 Y ru mn pr w sh i ic fe) = (fe (Int32.toNatClampNeg ((24 * w) + i))) := by rw [mg_X5_goOn_183, if_pos c8]
              have jj := j212
              rw [e_mg_X5_goOn_183] at jj
              exact jj ls H locs (lv_sub hl [2, 3, 4, 5, 0, 6, 7, 8, 9, 1] rfl) hP hD hS
            · refine lv_aload_n hx hb dX5_goOn_186 rfl (lv_at hl 2 rfl) ?_
              refine kget (v := .ref (a 9)) C hP igX5 rfl 9 (by decide) wd_2_155 0 rfl rfl dX5_goOn_187 ?_
              refine lv_iload hx hb dX5_goOn_190 (lv_at hl 7 rfl) ?_
              refine kald C hP 5 rfl hk (k := (Int32.toNatClampNeg ((24 * w) + i))) rfl dX5_goOn_192 ?_
              refine lv_if_ge (tgt := 205) hx hb dX5_goOn_193 (by decide) (fun c9 => ?_) (fun c9 => ?_)
              · refine lv_aload_n hx hb dX5_goOn_205 rfl (lv_at hl 2 rfl) ?_
                refine kget (v := .ref (a 9)) C hP igX5 rfl 9 (by decide) wd_2_155 0 rfl rfl dX5_goOn_206 ?_
                refine lv_iload hx hb dX5_goOn_209 (lv_at hl 7 rfl) ?_
                refine kald C hP 5 rfl hk (k := (Int32.toNatClampNeg ((24 * w) + i))) rfl dX5_goOn_211 ?_
                have e_mg_X5_goOn_183 : (mg_X5_goOn_183 Y ru mn pr w sh i ic fe) = (fe (Int32.toNatClampNeg ((24 * w) + i))) := by rw [mg_X5_goOn_183, if_neg c8, if_pos c9]
                have jj := j212
                rw [e_mg_X5_goOn_183] at jj
                exact jj ls H locs (lv_sub hl [2, 3, 4, 5, 0, 6, 7, 8, 9, 1] rfl) hP hD hS
              · refine lv_aload_n hx hb dX5_goOn_196 rfl (lv_at hl 2 rfl) ?_
                refine kget (v := .ref (a 11)) C hP igX5 rfl 11 (by decide) wd_2_157 0 rfl rfl dX5_goOn_197 ?_
                refine lv_iload_n hx hb dX5_goOn_200 rfl (lv_at hl 3 rfl) ?_
                refine kald C hP 7 rfl (in2 hw) (k := (Int32.toNatClampNeg w)) rfl dX5_goOn_201 ?_
                refine lv_goto (tgt := 212) hx hb dX5_goOn_202 (by decide) ?_
                have e_mg_X5_goOn_183 : (mg_X5_goOn_183 Y ru mn pr w sh i ic fe) = (mn (Int32.toNatClampNeg w)) := by rw [mg_X5_goOn_183, if_neg c8, if_neg c9]
                have jj := j212
                rw [e_mg_X5_goOn_183] at jj
                exact jj ls H locs (lv_sub hl [2, 3, 4, 5, 0, 6, 7, 8, 9, 1] rfl) hP hD hS
          refine lv_icmp_ge (tgt := 122) hx hb dX5_goOn_114 (by decide) (fun c7 => ?_) (fun c7 => ?_)
          · refine lv_aload_n hx hb dX5_goOn_122 rfl (lv_at hl 4 rfl) ?_
            refine kget (v := .ref (a 6)) C hP igX5 rfl 6 (by decide) wd_2_152 0 rfl rfl dX5_goOn_123 ?_
            refine lv_iload hx hb dX5_goOn_126 (lv_at hl 3 rfl) ?_
            refine kald C hP 2 rfl hk (k := (Int32.toNatClampNeg ((24 * w) + i))) rfl dX5_goOn_128 ?_
            have e_mg_X5_goOn_114 : (mg_X5_goOn_114 Y ru pr w sh i ic) = (ic (Int32.toNatClampNeg ((24 * w) + i))) := by rw [mg_X5_goOn_114, if_pos c7]
            have jj := j129
            rw [e_mg_X5_goOn_114] at jj
            exact jj ls H locs (lv_sub hl [4, 5, 6, 7, 8, 9, 3, 2, 1, 0] rfl) hP hD hS
          · refine lv_iload hx hb dX5_goOn_117 (lv_at hl 0 rfl) ?_
            refine lv_goto (tgt := 129) hx hb dX5_goOn_119 (by decide) ?_
            have e_mg_X5_goOn_114 : (mg_X5_goOn_114 Y ru pr w sh i ic) = (r_X5_steamAt ru (r_X5_warmthOf Y ru ic pr w i sh) ((100 * ((ru 0) - (ic (Int32.toNatClampNeg ((24 * w) + i))))) / (ru 0)) (pr (Int32.toNatClampNeg w))) := by rw [mg_X5_goOn_114, if_neg c7]
            have jj := j129
            rw [e_mg_X5_goOn_114] at jj
            exact jj ls H locs (lv_sub hl [4, 5, 6, 7, 8, 9, 3, 2, 1, 0] rfl) hP hD hS
        · refine lv_aload_n hx hb dX5_goOn_34 rfl (lv_at hl 1 rfl) ?_
          refine kget (v := .ref (a 7)) C hP igX5 rfl 7 (by decide) wd_2_153 0 rfl rfl dX5_goOn_35 ?_
          refine lv_iload hx hb dX5_goOn_38 (lv_at hl 0 rfl) ?_
          refine lv_iload_n hx hb dX5_goOn_40 rfl (lv_at hl 3 rfl) ?_
          refine kast (ws' := [yc a Y, ac cI (a 2) 11 ru, ac cI (a 6) 48 ic, ac cI (a 7) 48 (upd wm (Int32.toNatClampNeg ((24 * w) + i)) sh), ac cI (a 8) 48 ga, ac cI (a 9) 48 fe, ac cI (a 10) 48 dr, ac cI (a 11) 2 mn, ac cI (a 12) 2 pr, ac cI (a 13) 2 hg, ac cI (a 14) 2 al, ac cI (a 15) 2 sd]) C hP hD hS 3 rfl hk (k := (Int32.toNatClampNeg ((24 * w) + i))) rfl rfl dX5_goOn_41 (fun H locs hP hD hS => ?_)
          refine lv_aload_n hx hb dX5_goOn_42 rfl (lv_at hl 1 rfl) ?_
          refine kget (v := .ref (a 8)) C hP igX5 rfl 8 (by decide) wd_2_154 0 rfl rfl dX5_goOn_43 ?_
          refine lv_iload hx hb dX5_goOn_46 (lv_at hl 0 rfl) ?_
          refine lv_iconst (v := 0) hx hb dX5_goOn_48 (by decide) ?_
          refine kast (ws' := [yc a Y, ac cI (a 2) 11 ru, ac cI (a 6) 48 ic, ac cI (a 7) 48 (upd wm (Int32.toNatClampNeg ((24 * w) + i)) sh), ac cI (a 8) 48 (upd ga (Int32.toNatClampNeg ((24 * w) + i)) 0), ac cI (a 9) 48 fe, ac cI (a 10) 48 dr, ac cI (a 11) 2 mn, ac cI (a 12) 2 pr, ac cI (a 13) 2 hg, ac cI (a 14) 2 al, ac cI (a 15) 2 sd]) C hP hD hS 4 rfl hk (k := (Int32.toNatClampNeg ((24 * w) + i))) rfl rfl dX5_goOn_49 (fun H locs hP hD hS => ?_)
          refine lv_goto (tgt := 246) hx hb dX5_goOn_50 (by decide) ?_
          refine lv_iinc (v := (i + 1)) (lv' := [(5, .int (i + 1)), (6, .int ((24 * w) + i)), (0, .ref (a 0)), (1, .int w), (2, .int sh), (3, .int se), (4, .int sm)]) hx hb dX5_goOn_246 hl (k := 6) rfl rfl (by decide) rfl (fun ls hl => ?_)
          refine lv_goto (tgt := 6) hx hb dX5_goOn_249 (by decide) ?_
          exact ih sm (i + 1) ic (upd wm (Int32.toNatClampNeg ((24 * w) + i)) sh) (upd ga (Int32.toNatClampNeg ((24 * w) + i)) 0) fe dr (inc0 h0 c1) (okB_next h0 c1 hI) (cnt2_lt c1 hm) (by rw [← ho_ic, lq_X5_goOn_6_ic, if_neg c1, if_pos c6]) (by rw [← ho_wm, lq_X5_goOn_6_wm, if_neg c1, if_pos c6]) (by rw [← ho_ga, lq_X5_goOn_6_ga, if_neg c1, if_pos c6]) (by rw [← ho_fe, lq_X5_goOn_6_fe, if_neg c1, if_pos c6]) (by rw [← ho_dr, lq_X5_goOn_6_dr, if_neg c1, if_pos c6]) (by rw [← ho_mn, lq_X5_goOn_6_mn, if_neg c1, if_pos c6]) (by rw [← ho_pr, lq_X5_goOn_6_pr, if_neg c1, if_pos c6]) (by rw [← ho_hg, lq_X5_goOn_6_hg, if_neg c1, if_pos c6]) (by rw [← ho_al, lq_X5_goOn_6_al, if_neg c1, if_pos c6]) (by rw [← ho_sd, lq_X5_goOn_6_sd, if_neg c1, if_pos c6]) ls H locs (lv_sub hl [2, 3, 4, 5, 6, 0] rfl) hP hD hS
  exact lp6 (fu ((Int32.toInt (r_X5_vials Y)).toNat + 1)) 0 0 ic wm ga fe dr (by decide) hI (by rw [fu_eq]; have e0 : (0 : Int32).toInt = 0 := rfl; omega) (by rw [← ho_ic, q_X5_goOn_ic]) (by rw [← ho_wm, q_X5_goOn_wm]) (by rw [← ho_ga, q_X5_goOn_ga]) (by rw [← ho_fe, q_X5_goOn_fe]) (by rw [← ho_dr, q_X5_goOn_dr]) (by rw [← ho_mn, q_X5_goOn_mn]) (by rw [← ho_pr, q_X5_goOn_pr]) (by rw [← ho_hg, q_X5_goOn_hg]) (by rw [← ho_al, q_X5_goOn_al]) (by rw [← ho_sd, q_X5_goOn_sd]) ls H locs (lv_sub hl [2, 3, 4, 5, 1, 0] rfl) hP hD hS
