/-! what is owed of class and reference alone -/
def obl_feed (R : Sg → Sg → Prop) : Prop := ∀ (σc σm : Sg) (p1 p2 p3 p4 p5 : Int32), R σc σm → m_X4_feed p1 p2 p3 p4 p5 σc (fun r σ' => m_X5_feed p1 p2 p3 p4 p5 σm (fun r' s' => r = r' ∧ R σ' s'))
/-- what text owes: answers, and what comes behind -/
def K_text (R : Sg → Sg → Prop) (p1 : Int32) (σm : Sg) : Int32 → Sg → Int64 → Prop := fun k σ' v' => m_X5_text p1 σm (fun bb s1 => m_X5_thrown s1 (fun th s2 => th = k ∧ (k = 0 → v' = bb.toInt64) ∧ R σ' s2))
def obl_text (R : Sg → Sg → Prop) : Prop := ∀ (σc σm : Sg) (v : Int64) (p1 : Int32), R σc σm → m_X4_text p1 σc (fun r σ' => K_text R p1 σm 0 σ' r.toInt64) (fun E σ' => (E = "java/lang/IllegalArgumentException" ∧ K_text R p1 σm 1 σ' v))
def obl_fault (R : Sg → Sg → Prop) : Prop := ∀ (σc σm : Sg), R σc σm → m_X4_fault  σc (fun r σ' => m_X5_fault  σm (fun r' s' => r = r' ∧ R σ' s'))
/-- what hour owes: answers, and what comes behind -/
def K_hour (R : Sg → Sg → Prop) (p1 p2 p3 : Int32) (σm : Sg) : Int32 → Sg → Int64 → Prop := fun k σ' v' => m_X5_hour p1 p2 p3 σm (fun bb s1 => m_X5_thrown s1 (fun th s2 => th = k ∧ (k = 0 → v' = bb.toInt64) ∧ R σ' s2))
def obl_hour (R : Sg → Sg → Prop) : Prop := ∀ (σc σm : Sg) (v : Int64) (p1 p2 p3 : Int32), R σc σm → m_X4_hour p1 p2 p3 σc (fun r σ' => K_hour R p1 p2 p3 σm 0 σ' r.toInt64) (fun E σ' => (E = "java/lang/IllegalArgumentException" ∧ K_hour R p1 p2 p3 σm 1 σ' v) ∨ (E = "java/lang/IllegalStateException" ∧ K_hour R p1 p2 p3 σm 2 σ' v))
/-- what fuel owes: answers, and what comes behind -/
def K_fuel (R : Sg → Sg → Prop) (p1 p2 : Int32) (σm : Sg) : Int32 → Sg → Int64 → Prop := fun k σ' v' => m_X5_fuel p1 p2 σm (fun bb s1 => m_X5_thrown s1 (fun th s2 => th = k ∧ (k = 0 → v' = bb.toInt64) ∧ R σ' s2))
def obl_fuel (R : Sg → Sg → Prop) : Prop := ∀ (σc σm : Sg) (v : Int64) (p1 p2 : Int32), R σc σm → m_X4_fuel p1 p2 σc (fun r σ' => K_fuel R p1 p2 σm 0 σ' r.toInt64) (fun E σ' => (E = "java/util/NoSuchElementException" ∧ K_fuel R p1 p2 σm 1 σ' v) ∨ (E = "java/lang/IllegalArgumentException" ∧ K_fuel R p1 p2 σm 2 σ' v))
/-- what wind owes: answers, and what comes behind -/
def K_wind (R : Sg → Sg → Prop) (p1 p2 : Int32) (σm : Sg) : Int32 → Sg → Int64 → Prop := fun k σ' v' => m_X5_wind p1 p2 σm (fun bb s1 => m_X5_thrown s1 (fun th s2 => th = k ∧ (k = 0 → v' = bb.toInt64) ∧ R σ' s2))
def obl_wind (R : Sg → Sg → Prop) : Prop := ∀ (σc σm : Sg) (v : Int64) (p1 p2 : Int32), R σc σm → m_X4_wind p1 p2 σc (fun r σ' => K_wind R p1 p2 σm 0 σ' r.toInt64) (fun E σ' => (E = "java/lang/IllegalArgumentException" ∧ K_wind R p1 p2 σm 1 σ' v))
def obl_undo (R : Sg → Sg → Prop) : Prop := ∀ (σc σm : Sg), R σc σm → m_X4_undo  σc (fun r σ' => m_X5_undo  σm (fun r' s' => r = r' ∧ R σ' s'))
/-- what told owes: answers, and what comes behind -/
def K_told (R : Sg → Sg → Prop) (p1 : Int32) (σm : Sg) : Int32 → Sg → Int64 → Prop := fun k σ' v' => m_X5_told p1 σm (fun bb s1 => m_X5_thrown s1 (fun th s2 => th = k ∧ (k = 0 → v' = bb.toInt64) ∧ R σ' s2))
def obl_told (R : Sg → Sg → Prop) : Prop := ∀ (σc σm : Sg) (v : Int64) (p1 : Int32), R σc σm → m_X4_told p1 σc (fun r σ' => K_told R p1 σm 0 σ' r.toInt64) (fun E σ' => (E = "java/lang/IllegalArgumentException" ∧ K_told R p1 σm 1 σ' v))
/-- what cell owes: answers, and what comes behind -/
def K_cell (R : Sg → Sg → Prop) (p1 p2 p3 : Int32) (σm : Sg) : Int32 → Sg → Int64 → Prop := fun k σ' v' => m_X5_cell p1 p2 p3 σm (fun bb s1 => m_X5_thrown s1 (fun th s2 => th = k ∧ (k = 0 → v' = bb.toInt64) ∧ R σ' s2))
def obl_cell (R : Sg → Sg → Prop) : Prop := ∀ (σc σm : Sg) (v : Int64) (p1 p2 p3 : Int32), R σc σm → m_X4_cell p1 p2 p3 σc (fun r σ' => K_cell R p1 p2 p3 σm 0 σ' r.toInt64) (fun E σ' => (E = "java/lang/IllegalArgumentException" ∧ K_cell R p1 p2 p3 σm 1 σ' v))
/-- what blows owes: answers, and what comes behind -/
def K_blows (R : Sg → Sg → Prop) (p1 : Int32) (σm : Sg) : Int32 → Sg → Int64 → Prop := fun k σ' v' => m_X5_blows p1 σm (fun bb s1 => m_X5_thrown s1 (fun th s2 => th = k ∧ (k = 0 → v' = bb.toInt64) ∧ R σ' s2))
def obl_blows (R : Sg → Sg → Prop) : Prop := ∀ (σc σm : Sg) (v : Int64) (p1 : Int32), R σc σm → m_X4_blows p1 σc (fun r σ' => K_blows R p1 σm 0 σ' r.toInt64) (fun E σ' => (E = "java/lang/IllegalArgumentException" ∧ K_blows R p1 σm 1 σ' v))
/-- what helper owes: answers, and what comes behind -/
def K_helper (R : Sg → Sg → Prop) (p1 p2 : Int32) (σm : Sg) : Int32 → Sg → Int64 → Prop := fun k σ' v' => m_X5_helper p1 p2 σm (fun bb s1 => m_X5_thrown s1 (fun th s2 => th = k ∧ (k = 0 → v' = bb.toInt64) ∧ R σ' s2))
def obl_helper (R : Sg → Sg → Prop) : Prop := ∀ (σc σm : Sg) (v : Int64) (p1 p2 : Int32), R σc σm → m_X4_helper p1 p2 σc (fun r σ' => K_helper R p1 p2 σm 0 σ' r.toInt64) (fun E σ' => (E = "java/util/NoSuchElementException" ∧ K_helper R p1 p2 σm 1 σ' v) ∨ (E = "java/lang/IllegalArgumentException" ∧ K_helper R p1 p2 σm 2 σ' v))
/-- what drift owes: answers, and what comes behind -/
def K_drift (R : Sg → Sg → Prop) (p1 p2 : Int32) (σm : Sg) : Int32 → Sg → Int64 → Prop := fun k σ' v' => m_X5_drift p1 p2 σm (fun bb s1 => m_X5_thrown s1 (fun th s2 => th = k ∧ (k = 0 → v' = bb.toInt64) ∧ R σ' s2))
def obl_drift (R : Sg → Sg → Prop) : Prop := ∀ (σc σm : Sg) (v : Int64) (p1 p2 : Int32), R σc σm → m_X4_drift p1 p2 σc (fun r σ' => K_drift R p1 p2 σm 0 σ' r.toInt64) (fun E σ' => (E = "java/lang/IllegalArgumentException" ∧ K_drift R p1 p2 σm 1 σ' v))
/-- what cost owes: answers, and what comes behind -/
def K_cost (R : Sg → Sg → Prop) (p1 p2 : Int32) (σm : Sg) : Int32 → Sg → Int64 → Prop := fun k σ' v' => m_X5_cost p1 p2 σm (fun bb s1 => m_X5_thrown s1 (fun th s2 => th = k ∧ (k = 0 → v' = bb.toInt64) ∧ R σ' s2))
def obl_cost (R : Sg → Sg → Prop) : Prop := ∀ (σc σm : Sg) (v : Int64) (p1 p2 : Int32), R σc σm → m_X4_cost p1 p2 σc (fun r σ' => K_cost R p1 p2 σm 0 σ' r.toInt64) (fun E σ' => (E = "java/lang/IllegalArgumentException" ∧ K_cost R p1 p2 σm 1 σ' v))
/-- what meet owes: answers, and what comes behind -/
def K_meet (R : Sg → Sg → Prop) (p1 p2 : Int32) (σm : Sg) : Int32 → Sg → Int64 → Prop := fun k σ' v' => m_X5_meet p1 p2 σm (fun bb s1 => m_X5_thrown s1 (fun th s2 => th = k ∧ (k = 0 → v' = bb.toInt64) ∧ R σ' s2))
def obl_meet (R : Sg → Sg → Prop) : Prop := ∀ (σc σm : Sg) (v : Int64) (p1 p2 : Int32), R σc σm → m_X4_meet p1 p2 σc (fun r σ' => K_meet R p1 p2 σm 0 σ' r.toInt64) (fun E σ' => (E = "java/util/NoSuchElementException" ∧ K_meet R p1 p2 σm 1 σ' v) ∨ (E = "java/lang/IllegalArgumentException" ∧ K_meet R p1 p2 σm 2 σ' v))
/-- what route owes: answers, and what comes behind -/
def K_route (R : Sg → Sg → Prop) (p1 p2 : Int32) (σm : Sg) : Int32 → Sg → Int64 → Prop := fun k σ' v' => m_X5_route p1 p2 σm (fun bb s1 => m_X5_thrown s1 (fun th s2 => th = k ∧ (k = 0 → v' = bb.toInt64) ∧ R σ' s2))
def obl_route (R : Sg → Sg → Prop) : Prop := ∀ (σc σm : Sg) (v : Int64) (p1 p2 : Int32), R σc σm → m_X4_route p1 p2 σc (fun r σ' => K_route R p1 p2 σm 0 σ' r.toInt64) (fun E σ' => (E = "java/util/NoSuchElementException" ∧ K_route R p1 p2 σm 1 σ' v))
def obl_first (R : Sg → Sg → Prop) : Prop := ∀ (σc σm : Sg), R σc σm → m_X4_first  σc (fun r σ' => m_X5_first  σm (fun r' s' => r = r' ∧ R σ' s'))
/-- what least owes: answers, and what comes behind -/
def K_least (R : Sg → Sg → Prop) (p1 p2 : Int32) (σm : Sg) : Int32 → Sg → Int64 → Prop := fun k σ' v' => m_X5_least p1 p2 σm (fun bb s1 => m_X5_thrown s1 (fun th s2 => th = k ∧ (k = 0 → v' = bb.toInt64) ∧ R σ' s2))
def obl_least (R : Sg → Sg → Prop) : Prop := ∀ (σc σm : Sg) (v : Int64) (p1 p2 : Int32), R σc σm → m_X4_least p1 p2 σc (fun r σ' => K_least R p1 p2 σm 0 σ' r.toInt64) (fun E σ' => (E = "java/util/NoSuchElementException" ∧ K_least R p1 p2 σm 1 σ' v) ∨ (E = "java/lang/IllegalArgumentException" ∧ K_least R p1 p2 σm 2 σ' v))
/-- what reach owes: answers, and what comes behind -/
def K_reach (R : Sg → Sg → Prop) (p1 p2 : Int32) (σm : Sg) : Int32 → Sg → Int64 → Prop := fun k σ' v' => m_X5_reach p1 p2 σm (fun bb s1 => m_X5_thrown s1 (fun th s2 => th = k ∧ (k = 0 → v' = bb.toInt64) ∧ R σ' s2))
def obl_reach (R : Sg → Sg → Prop) : Prop := ∀ (σc σm : Sg) (v : Int64) (p1 p2 : Int32), R σc σm → m_X4_reach p1 p2 σc (fun r σ' => K_reach R p1 p2 σm 0 σ' r.toInt64) (fun E σ' => (E = "java/util/NoSuchElementException" ∧ K_reach R p1 p2 σm 1 σ' v) ∨ (E = "java/lang/IllegalArgumentException" ∧ K_reach R p1 p2 σm 2 σ' v))
/-- what most owes: answers, and what comes behind -/
def K_most (R : Sg → Sg → Prop) (p1 p2 p3 p4 : Int32) (σm : Sg) : Int32 → Sg → Int64 → Prop := fun k σ' v' => m_X5_most p1 p2 p3 p4 σm (fun bb s1 => m_X5_thrown s1 (fun th s2 => th = k ∧ (k = 0 → v' = bb.toInt64) ∧ R σ' s2))
def obl_most (R : Sg → Sg → Prop) : Prop := ∀ (σc σm : Sg) (v : Int64) (p1 p2 p3 p4 : Int32), R σc σm → m_X4_most p1 p2 p3 p4 σc (fun r σ' => K_most R p1 p2 p3 p4 σm 0 σ' r.toInt64) (fun E σ' => (E = "java/util/NoSuchElementException" ∧ K_most R p1 p2 p3 p4 σm 1 σ' v) ∨ (E = "java/lang/IllegalArgumentException" ∧ K_most R p1 p2 p3 p4 σm 2 σ' v))
/-- what relay owes: answers, and what comes behind -/
def K_relay (R : Sg → Sg → Prop) (p1 p2 : Int32) (σm : Sg) : Int32 → Sg → Int64 → Prop := fun k σ' v' => m_X5_relay p1 p2 σm (fun bb s1 => m_X5_thrown s1 (fun th s2 => th = k ∧ (k = 0 → v' = bb.toInt64) ∧ R σ' s2))
def obl_relay (R : Sg → Sg → Prop) : Prop := ∀ (σc σm : Sg) (v : Int64) (p1 p2 : Int32), R σc σm → m_X4_relay p1 p2 σc (fun r σ' => K_relay R p1 p2 σm 0 σ' r.toInt64) (fun E σ' => (E = "java/util/NoSuchElementException" ∧ K_relay R p1 p2 σm 1 σ' v) ∨ (E = "java/lang/IllegalArgumentException" ∧ K_relay R p1 p2 σm 2 σ' v))
/-- what home owes: answers, and what comes behind -/
def K_home (R : Sg → Sg → Prop) (p1 p2 : Int32) (σm : Sg) : Int32 → Sg → Int64 → Prop := fun k σ' v' => m_X5_home p1 p2 σm (fun bb s1 => m_X5_thrown s1 (fun th s2 => th = k ∧ (k = 0 → v' = bb.toInt64) ∧ R σ' s2))
def obl_home (R : Sg → Sg → Prop) : Prop := ∀ (σc σm : Sg) (v : Int64) (p1 p2 : Int32), R σc σm → m_X4_home p1 p2 σc (fun r σ' => K_home R p1 p2 σm 0 σ' r.toInt64) (fun E σ' => (E = "java/util/NoSuchElementException" ∧ K_home R p1 p2 σm 1 σ' v) ∨ (E = "java/lang/IllegalArgumentException" ∧ K_home R p1 p2 σm 2 σ' v))
def obl_print (R : Sg → Sg → Prop) : Prop := ∀ (σc σm : Sg), R σc σm → m_X4_print  σc (fun r σ' => m_X5_print  σm (fun r' s' => r = r' ∧ R σ' s'))
def obl_status (R : Sg → Sg → Prop) : Prop := ∀ (σc σm : Sg) (p1 : Int32), R σc σm → m_X4_status p1 σc (fun r σ' => m_X5_status p1 σm (fun r' s' => r = r' ∧ R σ' s'))
def obl_init (R : Sg → Sg → Prop) : Prop := m_X3_beginSmall 2 s0 (fun σc => m_X5_begins 350 s0 (fun σ => R σc (st2 (st2 (st2 (st2 (st2 (st2 (st2 (st2 σ 350 0 3) 350 1 3) 350 3 1) 350 8 1) 350 9 1) 350 1089 2) 350 1090 2) 350 1091 10)))
def Obl (R : Sg → Sg → Prop) : Prop := obl_init R ∧ obl_feed R ∧ obl_text R ∧ obl_fault R ∧ obl_hour R ∧ obl_fuel R ∧ obl_wind R ∧ obl_undo R ∧ obl_told R ∧ obl_cell R ∧ obl_blows R ∧ obl_helper R ∧ obl_drift R ∧ obl_cost R ∧ obl_meet R ∧ obl_route R ∧ obl_first R ∧ obl_least R ∧ obl_reach R ∧ obl_most R ∧ obl_relay R ∧ obl_home R ∧ obl_print R ∧ obl_status R
