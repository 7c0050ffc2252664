/-! The yard, the class and the model are made at the law's start: all numbers are known. -/
section
def f1 : Hp := nwC hp0 10 8
def f2 : Hp := upI (upA (nwC f1 15 3) 1 0 2) 1 1 0
def f3 : Hp := upA (iReader (nwC f2 6 10) 3) 1 2 3
def f4 : Hp := upA (iOutlook (nwC f3 3 14) 6) 1 3 6
def y0 : Hp := nwC f4 9 7
def y1 : Hp := upI (upA (nwC y0 16 12) 15 0 16) 15 1 0
def y2 : Hp := upI (upA (nwC y1 12 12) 15 2 17) 15 3 3
def y3 : Hp := upA (upI (upI (upI (nwC y2 12 3) 18 (0 : Int32).toNatClampNeg 2) 18 (1 : Int32).toNatClampNeg 2) 18 (2 : Int32).toNatClampNeg 2) 15 4 18
def y4 : Hp := upI (upA (iWay (nwC y3 8 16) 19) 15 5 19) 15 6 0
def y5 : Hp := flI y4 17 (-9)
def f5 : Hp := upA y5 1 4 15
def f6 : Hp := upA (nwC f5 17 4) 1 5 29
def f7 : Hp := upI (upA (iTrace (nwC f6 7 1) 30) 1 6 30) 1 7 0
def g0 : Hp := upA (iRow (nwC f7 5 3) 31) 29 ((0 : Int32)).toNatClampNeg 31
def g1 : Hp := upA (iRow (nwC g0 5 3) 33) 29 ((0 : Int32) + Int32.ofInt 1).toNatClampNeg 33
def g2 : Hp := upA (iRow (nwC g1 5 3) 35) 29 ((0 : Int32) + Int32.ofInt 1 + Int32.ofInt 1).toNatClampNeg 35
def g3 : Hp := upA (iRow (nwC g2 5 3) 37) 29 ((0 : Int32) + Int32.ofInt 1 + Int32.ofInt 1 + Int32.ofInt 1).toNatClampNeg 37
set_option maxRecDepth 100000 in
set_option maxHeartbeats 4000000 in
theorem c_Yard_made {sc : Nat × (Nat → Int32)} : Cc sc 78 [.ref 15] y0 none y5 := by
  refine cc_of 100 rfl rfl ?_
  refine And.intro ⟨rfl, by decide⟩ ?_
  refine And.intro ⟨by decide, by decide⟩ ?_
  refine And.intro rfl ?_
  refine And.intro rfl ?_
  refine And.intro ⟨by decide, by decide⟩ ?_
  refine And.intro rfl ?_
  refine And.intro rfl ?_
  refine And.intro ⟨by decide, by decide⟩ ?_
  refine And.intro ⟨rfl, rfl⟩ ?_
  refine And.intro ⟨rfl, rfl⟩ ?_
  refine And.intro ⟨rfl, rfl⟩ ?_
  refine And.intro rfl ?_
  refine And.intro ⟨rfl, by decide⟩ (And.intro rfl (Exists.intro none (Exists.intro (iWay (nwC y3 8 16) 19) (And.intro (c_Way_init (h := nwC y3 8 16) (a := 19) (by decide) (by decide) rfl) ?_))))
  refine And.intro rfl ?_
  refine And.intro ⟨rfl, Or.inl rfl⟩ ?_
  refine And.intro rfl ?_
  refine And.intro rfl (And.intro rfl (Exists.intro none (Exists.intro y5 (And.intro (c_fillI (h := y4) (a := 17) (v := -9) rfl (by decide)) ?_))))
  exact ⟨trivial, rfl, rfl⟩
set_option maxRecDepth 100000 in
set_option maxHeartbeats 4000000 in
theorem c_FL_made {sc : Nat × (Nat → Int32)} : Cc sc 90 [.ref 1] f1 none g3 := by
  refine cc_of 200 rfl rfl ?_
  refine And.intro ⟨rfl, by decide⟩ ?_
  refine And.intro ⟨by decide, by decide⟩ ?_
  refine And.intro rfl ?_
  refine And.intro rfl ?_
  refine And.intro ⟨rfl, by decide⟩ (And.intro rfl (Exists.intro none (Exists.intro (iReader (nwC f2 6 10) 3) (And.intro (c_Reader_init (h := nwC f2 6 10) (a := 3) (by decide) (by decide) rfl) ?_))))
  refine And.intro rfl ?_
  refine And.intro ⟨rfl, by decide⟩ (And.intro rfl (Exists.intro none (Exists.intro (iOutlook (nwC f3 3 14) 6) (And.intro (c_Outlook_init (h := nwC f3 3 14) (a := 6) (by decide) (by decide) rfl) ?_))))
  refine And.intro rfl ?_
  refine And.intro ⟨rfl, by decide⟩ (And.intro rfl (Exists.intro none (Exists.intro y5 (And.intro c_Yard_made ?_))))
  refine And.intro rfl ?_
  refine And.intro ⟨by decide, by decide⟩ ?_
  refine And.intro rfl ?_
  refine And.intro ⟨rfl, by decide⟩ (And.intro rfl (Exists.intro none (Exists.intro (iTrace (nwC f6 7 1) 30) (And.intro (c_Trace_init (h := nwC f6 7 1) (a := 30) (by decide) rfl) ?_))))
  refine And.intro rfl ?_
  refine And.intro rfl ?_
  refine br_f (by decide) ?_
  refine And.intro rfl ?_
  refine And.intro ⟨rfl, by decide⟩ (And.intro rfl (Exists.intro none (Exists.intro (iRow (nwC f7 5 3) 31) (And.intro (c_Row_init (h := nwC f7 5 3) (a := 31) (by decide) (by decide) rfl) ?_))))
  refine And.intro ⟨rfl, Or.inr (Or.inr ⟨rfl, rfl⟩)⟩ ?_
  refine br_f (by decide) ?_
  refine And.intro rfl ?_
  refine And.intro ⟨rfl, by decide⟩ (And.intro rfl (Exists.intro none (Exists.intro (iRow (nwC g0 5 3) 33) (And.intro (c_Row_init (h := nwC g0 5 3) (a := 33) (by decide) (by decide) rfl) ?_))))
  refine And.intro ⟨rfl, Or.inr (Or.inr ⟨rfl, rfl⟩)⟩ ?_
  refine br_f (by decide) ?_
  refine And.intro rfl ?_
  refine And.intro ⟨rfl, by decide⟩ (And.intro rfl (Exists.intro none (Exists.intro (iRow (nwC g1 5 3) 35) (And.intro (c_Row_init (h := nwC g1 5 3) (a := 35) (by decide) (by decide) rfl) ?_))))
  refine And.intro ⟨rfl, Or.inr (Or.inr ⟨rfl, rfl⟩)⟩ ?_
  refine br_f (by decide) ?_
  refine And.intro rfl ?_
  refine And.intro ⟨rfl, by decide⟩ (And.intro rfl (Exists.intro none (Exists.intro (iRow (nwC g2 5 3) 37) (And.intro (c_Row_init (h := nwC g2 5 3) (a := 37) (by decide) (by decide) rfl) ?_))))
  refine And.intro ⟨rfl, Or.inr (Or.inr ⟨rfl, rfl⟩)⟩ ?_
  refine br_t (by decide) ?_
  exact ⟨trivial, rfl, rfl⟩
def m0 : Hp := nwC g3 11 38
def ma0 : Hp := upA (nwC m0 12 3) 39 2 40
def ma1 : Hp := upA (nwC ma0 12 3) 39 3 41
def ma2 : Hp := upA (nwC ma1 12 3) 39 4 42
def ma3 : Hp := upA (nwC ma2 12 15) 39 5 43
def ma4 : Hp := upA (nwC ma3 12 45) 39 6 44
def ma5 : Hp := upA (nwC ma4 12 5) 39 12 45
def ma6 : Hp := upA (nwC ma5 12 15) 39 13 46
def ma7 : Hp := upA (nwC ma6 13 216) 39 14 47
def ma8 : Hp := upA (nwC ma7 13 216) 39 15 48
def ma9 : Hp := upA (nwC ma8 13 216) 39 16 49
def ma10 : Hp := upA (nwC ma9 13 216) 39 17 50
def ma11 : Hp := upA (nwC ma10 12 12) 39 19 51
def ma12 : Hp := upA (nwC ma11 12 12) 39 20 52
def ma13 : Hp := upA (nwC ma12 12 12) 39 21 53
def ma14 : Hp := upA (nwC ma13 14 12) 39 22 54
def ma15 : Hp := upA (nwC ma14 14 12) 39 23 55
def ma16 : Hp := upA (nwC ma15 12 12) 39 24 56
def ma17 : Hp := upA (nwC ma16 12 12) 39 25 57
def ma18 : Hp := upA (nwC ma17 12 3) 39 27 58
def ma19 : Hp := upA (nwC ma18 12 53248) 39 28 59
def ma20 : Hp := upA (nwC ma19 12 12) 39 30 60
def ma21 : Hp := upA (nwC ma20 12 4) 39 33 61
def ma22 : Hp := upA (nwC ma21 12 4) 39 34 62
def ma23 : Hp := upA (nwC ma22 12 240) 39 35 63
def ma24 : Hp := upA (nwC ma23 12 60) 39 36 64
def mb : Hp := upI ma24 39 26 3
def mc0 : Hp := upI mb 58 ((0 : Int32)).toNatClampNeg 2
def mc1 : Hp := upI mc0 58 ((0 : Int32) + Int32.ofInt 1).toNatClampNeg 2
def mc2 : Hp := upI mc1 58 ((0 : Int32) + Int32.ofInt 1 + Int32.ofInt 1).toNatClampNeg 2
def mc3 : Hp := upI mc2 57 ((0 : Int32)).toNatClampNeg (-9)
def mc4 : Hp := upI mc3 57 ((0 : Int32) + Int32.ofInt 1).toNatClampNeg (-9)
def mc5 : Hp := upI mc4 57 ((0 : Int32) + Int32.ofInt 1 + Int32.ofInt 1).toNatClampNeg (-9)
def mc6 : Hp := upI mc5 57 ((0 : Int32) + Int32.ofInt 1 + Int32.ofInt 1 + Int32.ofInt 1).toNatClampNeg (-9)
def mc7 : Hp := upI mc6 57 ((0 : Int32) + Int32.ofInt 1 + Int32.ofInt 1 + Int32.ofInt 1 + Int32.ofInt 1).toNatClampNeg (-9)
def mc8 : Hp := upI mc7 57 ((0 : Int32) + Int32.ofInt 1 + Int32.ofInt 1 + Int32.ofInt 1 + Int32.ofInt 1 + Int32.ofInt 1).toNatClampNeg (-9)
def mc9 : Hp := upI mc8 57 ((0 : Int32) + Int32.ofInt 1 + Int32.ofInt 1 + Int32.ofInt 1 + Int32.ofInt 1 + Int32.ofInt 1 + Int32.ofInt 1).toNatClampNeg (-9)
def mc10 : Hp := upI mc9 57 ((0 : Int32) + Int32.ofInt 1 + Int32.ofInt 1 + Int32.ofInt 1 + Int32.ofInt 1 + Int32.ofInt 1 + Int32.ofInt 1 + Int32.ofInt 1).toNatClampNeg (-9)
def mc11 : Hp := upI mc10 57 ((0 : Int32) + Int32.ofInt 1 + Int32.ofInt 1 + Int32.ofInt 1 + Int32.ofInt 1 + Int32.ofInt 1 + Int32.ofInt 1 + Int32.ofInt 1 + Int32.ofInt 1).toNatClampNeg (-9)
def mc12 : Hp := upI mc11 57 ((0 : Int32) + Int32.ofInt 1 + Int32.ofInt 1 + Int32.ofInt 1 + Int32.ofInt 1 + Int32.ofInt 1 + Int32.ofInt 1 + Int32.ofInt 1 + Int32.ofInt 1 + Int32.ofInt 1).toNatClampNeg (-9)
def mc13 : Hp := upI mc12 57 ((0 : Int32) + Int32.ofInt 1 + Int32.ofInt 1 + Int32.ofInt 1 + Int32.ofInt 1 + Int32.ofInt 1 + Int32.ofInt 1 + Int32.ofInt 1 + Int32.ofInt 1 + Int32.ofInt 1 + Int32.ofInt 1).toNatClampNeg (-9)
def mc14 : Hp := upI mc13 57 ((0 : Int32) + Int32.ofInt 1 + Int32.ofInt 1 + Int32.ofInt 1 + Int32.ofInt 1 + Int32.ofInt 1 + Int32.ofInt 1 + Int32.ofInt 1 + Int32.ofInt 1 + Int32.ofInt 1 + Int32.ofInt 1 + Int32.ofInt 1).toNatClampNeg (-9)
def mc15 : Hp := upI mc14 61 ((0 : Int32)).toNatClampNeg (-1)
def mc16 : Hp := upI mc15 61 ((0 : Int32) + Int32.ofInt 1).toNatClampNeg (-1)
def mc17 : Hp := upI mc16 61 ((0 : Int32) + Int32.ofInt 1 + Int32.ofInt 1).toNatClampNeg (-1)
def mc18 : Hp := upI mc17 61 ((0 : Int32) + Int32.ofInt 1 + Int32.ofInt 1 + Int32.ofInt 1).toNatClampNeg (-1)
def hI : Hp := mc18
set_option maxRecDepth 100000 in
set_option maxHeartbeats 8000000 in
theorem c_Model_made {sc : Nat × (Nat → Int32)} : Cc sc 138 [.ref 39] m0 none hI := by
  refine cc_of 600 rfl rfl ?_
  refine And.intro ⟨rfl, by decide⟩ ?_
  refine And.intro ⟨by decide, by decide⟩ ?_
  refine And.intro rfl ?_
  refine And.intro ⟨by decide, by decide⟩ ?_
  refine And.intro rfl ?_
  refine And.intro ⟨by decide, by decide⟩ ?_
  refine And.intro rfl ?_
  refine And.intro ⟨by decide, by decide⟩ ?_
  refine And.intro rfl ?_
  refine And.intro ⟨by decide, by decide⟩ ?_
  refine And.intro rfl ?_
  refine And.intro ⟨by decide, by decide⟩ ?_
  refine And.intro rfl ?_
  refine And.intro ⟨by decide, by decide⟩ ?_
  refine And.intro rfl ?_
  refine And.intro ⟨by decide, by decide⟩ ?_
  refine And.intro rfl ?_
  refine And.intro ⟨by decide, by decide⟩ ?_
  refine And.intro rfl ?_
  refine And.intro ⟨by decide, by decide⟩ ?_
  refine And.intro rfl ?_
  refine And.intro ⟨by decide, by decide⟩ ?_
  refine And.intro rfl ?_
  refine And.intro ⟨by decide, by decide⟩ ?_
  refine And.intro rfl ?_
  refine And.intro ⟨by decide, by decide⟩ ?_
  refine And.intro rfl ?_
  refine And.intro ⟨by decide, by decide⟩ ?_
  refine And.intro rfl ?_
  refine And.intro ⟨by decide, by decide⟩ ?_
  refine And.intro rfl ?_
  refine And.intro ⟨by decide, by decide⟩ ?_
  refine And.intro rfl ?_
  refine And.intro ⟨by decide, by decide⟩ ?_
  refine And.intro rfl ?_
  refine And.intro ⟨by decide, by decide⟩ ?_
  refine And.intro rfl ?_
  refine And.intro ⟨by decide, by decide⟩ ?_
  refine And.intro rfl ?_
  refine And.intro ⟨by decide, by decide⟩ ?_
  refine And.intro rfl ?_
  refine And.intro ⟨by decide, by decide⟩ ?_
  refine And.intro rfl ?_
  refine And.intro ⟨by decide, by decide⟩ ?_
  refine And.intro rfl ?_
  refine And.intro ⟨by decide, by decide⟩ ?_
  refine And.intro rfl ?_
  refine And.intro ⟨by decide, by decide⟩ ?_
  refine And.intro rfl ?_
  refine And.intro ⟨by decide, by decide⟩ ?_
  refine And.intro rfl ?_
  refine And.intro rfl ?_
  refine br_f (by decide) ?_
  refine And.intro rfl ?_
  refine And.intro ⟨rfl, rfl⟩ ?_
  refine br_f (by decide) ?_
  refine And.intro rfl ?_
  refine And.intro ⟨rfl, rfl⟩ ?_
  refine br_f (by decide) ?_
  refine And.intro rfl ?_
  refine And.intro ⟨rfl, rfl⟩ ?_
  refine br_t (by decide) ?_
  refine br_f (by decide) ?_
  refine And.intro rfl ?_
  refine And.intro ⟨rfl, rfl⟩ ?_
  refine br_f (by decide) ?_
  refine And.intro rfl ?_
  refine And.intro ⟨rfl, rfl⟩ ?_
  refine br_f (by decide) ?_
  refine And.intro rfl ?_
  refine And.intro ⟨rfl, rfl⟩ ?_
  refine br_f (by decide) ?_
  refine And.intro rfl ?_
  refine And.intro ⟨rfl, rfl⟩ ?_
  refine br_f (by decide) ?_
  refine And.intro rfl ?_
  refine And.intro ⟨rfl, rfl⟩ ?_
  refine br_f (by decide) ?_
  refine And.intro rfl ?_
  refine And.intro ⟨rfl, rfl⟩ ?_
  refine br_f (by decide) ?_
  refine And.intro rfl ?_
  refine And.intro ⟨rfl, rfl⟩ ?_
  refine br_f (by decide) ?_
  refine And.intro rfl ?_
  refine And.intro ⟨rfl, rfl⟩ ?_
  refine br_f (by decide) ?_
  refine And.intro rfl ?_
  refine And.intro ⟨rfl, rfl⟩ ?_
  refine br_f (by decide) ?_
  refine And.intro rfl ?_
  refine And.intro ⟨rfl, rfl⟩ ?_
  refine br_f (by decide) ?_
  refine And.intro rfl ?_
  refine And.intro ⟨rfl, rfl⟩ ?_
  refine br_f (by decide) ?_
  refine And.intro rfl ?_
  refine And.intro ⟨rfl, rfl⟩ ?_
  refine br_t (by decide) ?_
  refine br_f (by decide) ?_
  refine And.intro rfl ?_
  refine And.intro ⟨rfl, rfl⟩ ?_
  refine br_f (by decide) ?_
  refine And.intro rfl ?_
  refine And.intro ⟨rfl, rfl⟩ ?_
  refine br_f (by decide) ?_
  refine And.intro rfl ?_
  refine And.intro ⟨rfl, rfl⟩ ?_
  refine br_f (by decide) ?_
  refine And.intro rfl ?_
  refine And.intro ⟨rfl, rfl⟩ ?_
  refine br_t (by decide) ?_
  exact ⟨trivial, rfl, rfl⟩
set_option maxRecDepth 100000 in
set_option maxHeartbeats 8000000 in
theorem law_pro {sc : Nat × (Nat → Int32)} {r : Option Value} {h' : Hp} (k : Rn sc lawM 18 [some (.retAddr 5), some (.ref 1), some (.ref 39), some (.int 0)] [] hI r h') : Rn sc lawM 0 (enL 4 [.retAddr 5]) [] hp0 r h' := by
  refine bk_sound (cuts := [18]) 30 _ _ _ _ ?_
  refine And.intro ⟨rfl, by decide⟩ (And.intro rfl (Exists.intro none (Exists.intro g3 (And.intro c_FL_made ?_))))
  refine And.intro ⟨rfl, by decide⟩ (And.intro rfl (Exists.intro none (Exists.intro hI (And.intro c_Model_made ?_))))
  exact k
end
