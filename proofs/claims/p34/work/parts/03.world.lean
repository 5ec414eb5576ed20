/-! THE WORLD: every cell of class, reference and law has a fixed place i; a state says what the cells hold. kd: what a place is; ct: what stands there; GW: the heap holds the state; Ct: a method's contract (start state, answer, end state). -/
def bnd {α β : Type} (e : α) (f : α → β) : β := f e
theorem bnd_at {α β : Type} {e v : α} {f : α → β} {r : β} (h : bnd e f = r) (ev : v = e) : f v = r := by subst ev; exact h
theorem if_t {α : Type} {c : Prop} [Decidable c] {a b r : α} (hc : c) (h : (if c then a else b) = r) : a = r := by rw [if_pos hc] at h; exact h
theorem if_f {α : Type} {c : Prop} [Decidable c] {a b r : α} (hc : ¬ c) (h : (if c then a else b) = r) : b = r := by rw [if_neg hc] at h; exact h
theorem bind_el {α β : Type} {o : Option α} {f : α → Option β} {r : β} (h : o.bind f = some r) : ∃ a, o = some a ∧ f a = some r := Option.bind_eq_some_iff.mp h
def bnd2 {α β γ : Type} (o : Option (α × β)) (f : α → β → Option γ) : Option γ := o.bind fun q => f q.1 q.2
theorem bnd2_el {α β γ : Type} {o : Option (α × β)} {f : α → β → Option γ} {r : γ} (h : bnd2 o f = some r) : ∃ a b, o = some (a, b) ∧ f a b = some r := by
  obtain ⟨⟨a, b⟩, h1, h2⟩ := bind_el h
  exact ⟨a, b, h1, h2⟩
/-- an index in range, else nothing -/
def ckI {α : Type} (j : Int32) (n : Nat) (x : Option α) : Option α := if j < 0 ∨ n ≤ j.toNatClampNeg then none else x
theorem ckI_el {α : Type} {j : Int32} {n : Nat} {x : Option α} {r : α} (h : ckI j n x = some r) : vp_in j n ∧ x = some r := by
  unfold ckI at h
  by_cases hc : j < 0 ∨ n ≤ j.toNatClampNeg
  · rw [if_pos hc] at h; cases h
  · rw [if_neg hc] at h; exact ⟨hc, h⟩
/-- a divisor that isn't 0, else nothing -/
def ckN {α : Type} (y : Int32) (x : Option α) : Option α := if y = 0 then none else x
theorem ckN_el {α : Type} {y : Int32} {x : Option α} {r : α} (h : ckN y x = some r) : ¬ y = 0 ∧ x = some r := by
  unfold ckN at h
  by_cases hc : y = 0
  · rw [if_pos hc] at h; cases h
  · rw [if_neg hc] at h; exact ⟨hc, h⟩
def ckL {α : Type} (y : Int64) (x : Option α) : Option α := if y = 0 then none else x
theorem ckL_el {α : Type} {y : Int64} {x : Option α} {r : α} (h : ckL y x = some r) : ¬ y = 0 ∧ x = some r := by
  unfold ckL at h
  by_cases hc : y = 0
  · rw [if_pos hc] at h; cases h
  · rw [if_neg hc] at h; exact ⟨hc, h⟩
/-- a truth value, else nothing -/
def ckZ {α : Type} (y : Int32) (x : Option α) : Option α := if y = 0 ∨ y = 1 then x else none
theorem ckZ_el {α : Type} {y : Int32} {x : Option α} {r : α} (h : ckZ y x = some r) : (y = 0 ∨ y = 1) ∧ x = some r := by
  unfold ckZ at h
  by_cases hc : y = 0 ∨ y = 1
  · rw [if_pos hc] at h; exact ⟨hc, h⟩
  · rw [if_neg hc] at h; cases h
/-- one of the 32 tokens, else nothing -/
def ckT {α : Type} (y : Option Nat) (f : Nat → Option α) : Option α := match y with
  | none => none
  | some k => if k < 32 then f k else none
theorem ckT_el {α : Type} {y : Option Nat} {f : Nat → Option α} {r : α} (h : ckT y f = some r) : ∃ k, y = some k ∧ k < 32 ∧ f k = some r := by
  cases y with
  | none => cases h
  | some k =>
    unfold ckT at h
    by_cases hc : k < 32
    · simp only [if_pos hc] at h; exact ⟨k, rfl, hc, h⟩
    · simp only [if_neg hc] at h; cases h
/-- the exceptions, by number -/
def exN : Nat → String
  | 1 => "java/lang/IllegalArgumentException"
  | 2 => "java/lang/IndexOutOfBoundsException"
  | 3 => "java/lang/IllegalStateException"
  | _ => "java/util/NoSuchElementException"
noncomputable def FU : Nat := 1000000
def ishl (x y : Int32) : Int32 := x <<< (y &&& 31)
def ishr (x y : Int32) : Int32 := x >>> (y &&& 31)
def iushr (x y : Int32) : Int32 := (x.toUInt32 >>> (y.toUInt32 &&& Int32.toUInt32 31)).toInt32
def lushr (x : Int64) (y : Int32) : Int64 := (x.toUInt64 >>> (y.toInt64.toUInt64 &&& Int64.toUInt64 63)).toInt64
def lshl (x : Int64) (y : Int32) : Int64 := x <<< (y.toInt64 &&& 63)
def irem (x y : Int32) : Int32 := x - x / y * y
def imax (x y : Int32) : Int32 := if x < y then y else x
def imin (x y : Int32) : Int32 := if y < x then y else x
def lmax (x y : Int64) : Int64 := if x < y then y else x
def lmin (x y : Int64) : Int64 := if y < x then y else x
/-- what the cells hold: ints, longs, tokens, doubles, by place and slot -/
abbrev St : Type := (Nat → Nat → Int32) × (Nat → Nat → Int64) × (Nat → Nat → Option Nat) × (Nat → Nat → UInt64)
def gI (σ : St) : Nat → Nat → Int32 := σ.1
def gL (σ : St) : Nat → Nat → Int64 := σ.2.1
def gK (σ : St) : Nat → Nat → Option Nat := σ.2.2.1
def gD (σ : St) : Nat → Nat → UInt64 := σ.2.2.2
def rowI (σ : St) (i : Nat) (f : Nat → Int32) : St := (va_up σ.1 i f, σ.2)
def sI (σ : St) (i k : Nat) (v : Int32) : St := rowI σ i (upd (gI σ i) k v)
def sL (σ : St) (i k : Nat) (v : Int64) : St := (σ.1, va_up σ.2.1 i (vp_updL (σ.2.1 i) k v), σ.2.2)
def sK (σ : St) (i k : Nat) (v : Option Nat) : St := (σ.1, σ.2.1, va_up σ.2.2.1 i (va_up (σ.2.2.1 i) k v), σ.2.2.2)
def sD (σ : St) (i k : Nat) (v : UInt64) : St := (σ.1, σ.2.1, σ.2.2.1, va_up σ.2.2.2 i (va_up (σ.2.2.2 i) k v))
/-- z, classes and slots, array classes, tokens, strings, their bytes, static arrays -/
abbrev GtR : Type := Nat × va_G × (Nat → ClassId) × (Nat → Nat) × (Nat → Nat) × (Nat → Nat) × (Nat → Nat) × (Nat → Prop)
abbrev Gt : Type := { g : GtR // ∀ i, i < 609 → g.2.2.2.2.2.2.2 (g.1 + i) }
def gz (G : Gt) : Nat := G.1.1
def gDD (G : Gt) : va_G := G.1.2.1
def gty (G : Gt) : Nat → ClassId := G.1.2.2.1
def gad (G : Gt) : Nat → Nat := G.1.2.2.2.1
def gsK (G : Gt) : Nat → Nat := G.1.2.2.2.2.1
def gsV (G : Gt) : Nat → Nat := G.1.2.2.2.2.2.1
def gsA (G : Gt) : Nat → Nat := G.1.2.2.2.2.2.2.1
abbrev tysG (G : Gt) : List (ClassId × FieldType) := [(gty G 0, .int), (gty G 1, .long), (gty G 2, .boolean), (gty G 3, .int), (gty G 4, .object "QuestLedger$Token"), (gty G 5, .object "QuestLedger$Quest"), (gty G 6, .object "QuestLedger$Ledger"), (gty G 7, .byte), (gty G 8, .object "java/lang/Object")]
abbrev vwCl : List vw_C := [(RX0, TX0, 1), (RX1, TX1, 3), (RX2, TX2, 8), (RX3, TX3, 14), (RX4, TX4, 6), (RX6, TX6, 7), (RX7, TX7, 4), (RX8, TX8, 3), (RX9, TX9, 0), (RX10, TX10, 9), (RX11, TX11, 9), (RX12, TX12, 9), (RJx4a65c, TJx4a65c, 3), (RJ4, TJ4, 4), (RJ0, TJ0, 4)]
def kdB : Nat := 17905604160143852985519293785948840277455189290219154485096765226219871186298363222807954586928573812983230398822127351930845378571015411436544664138812361295583542129701725873803020932943809979593110921878705174797879474863416399989030936629177384684039190868176981121252059259691318883460616448390669570513410174483611852558448079710777464886294879854566033391773614341413226289401748775927804691112121670651106756695758258587684614616426772152674878845233691976151359711715779331379995000826160929887000491033122135222660967713199247837755482369059216974896287948450283873073736086901164940512516962143919598752504161362172060301912038612272693683786300670877825523652973869425864820951296257638078048423496996324501182604261951831007823784522563961231418776889976313658873389487378335231992301910323203473994911737327351940723773628311524628241151163524694372587425064158330193528470260190803976699760203692911215197343165232184251353366464659410294687953441722030684192877096625201602232623540396595788357682677261763495891992173950634278802849818893912031680623564739170003628154229585404632366348304907811331068225170141448200194643001479806383072502530568074767115063656480224358629451584974370307135656346765247840059253202026889726981392154635495083192153806332932537167155601641682694610562992872129430801653743009334624683576689611604864212593734799237197820992100266645647761436053511183253717348747834875726149463504318867090721635249604378517590641417
def alB : Nat := 15774703991817374256835677049653146406569675683494055124064449451893521729168753881620048072546733725244959997508950199274801289107099067907838445641388456306126714147673346528621158200058441518489827194757271009649228782142498417582201460011266555343586645745041637080670640370841673167314179990909849181115508648813472730514900289914890655463793314245159002033892266977186059675720258194875363758364134317707563144242687969972894176148133954440446337813199497718985363312388451934818372552784394538125511991343808979798206943772516536671168982372116488039780084729667692575538909060189621011659660799839623787107885167817008336235845718252459889633596358023255312547118964550383068563745406901690497498430776080418282245358289227138630629350407636384379939569157711382938662810827708166259746502269407348998914052649771275904283623397188003132392308601404613013346482925172458959137679418206603220025543535615290274761363960778177393072315554105247889103681056512316654599505594380689474886589682165070998453460517817750282597682623218870954865307897729287628446278999029834423343536614528959675739079244358719212589379586935788319113520924606690559770983880042271274573752591682895480434783065619489470816113843902368012797250156758506954569512841888191075119060896466739347830953325678915895020373084786444174146095562630473314484530603457883503457166239526047360264661697326933474438479692605460119916508846988950145786154648490636027169757204401222837254510961522550716724203619298973399108760270243165717970825343351327420524641322695789002427529059187715040640414074068739764624421067852722616206552037867802558123115598739056338197074628713180863923022511792772815748246408466060664080635010428012842719021519689667058319830557418207902883498351468979780208281444568452967069813721812559945963867329921344076516683934797442609208334797613584727545295450128771725991125941922806921775049791675955389916657045594741074000898692828650053928138256708996937499802415221089450345192443434049684246911528000485324986777189610576843463441773230063890883715576226037811081710920099067435785076183866080745499611330852614957329677785167683433735034359741941037675091554023741710252057812762150930030315921728043552729300965485641520249452869648909104752772766465091645595993316987265857860061770382541615441817914189744053345532740555629366088056581649968188822283677788126670294159997299136419639413570997177141581470820471865842411160012608928637874547892192298108878210268521416447871055582194314110766894184985099439776655536069116338972305146842975407641431495171165848819614673617074036859597670275014289426290908840175746327959402437742087909165266727244534681623338431717926411657557120955633999073090863962270984205562375205202502100543229432513824185265737610857188110791354121061829747018931350395004656371208006645873421830805364743733291594871673647879179823162591666591756924996407323291848692363587121530188716834816
def NC : Nat := 609
def kd (i : Nat) : Nat := if i < 609 then (kdB >>> (8 * i)) % 256 else 99
def alen (i : Nat) : Nat := if i < 609 then (alB >>> (16 * i)) % 65536 else 0
theorem kd_in {i : Nat} (h : kd i ≠ 99) : i < 609 := by
  rcases Nat.lt_or_ge i 609 with q | q
  · exact q
  · refine absurd ?_ h
    unfold kd
    exact if_neg (by omega)
/-- a fact of all places, by the kernel -/
theorem kd_all {P : Nat → Prop} [DecidablePred P] (h : (List.range 609).all (fun i => decide (P i)) = true) {i : Nat} (hi : kd i ≠ 99) : P i := co_dec h (kd_in hi)
def tkN : List String := ["NUMBER", "END", "UNKNOWN", "NOTHING", "LEDGER", "STOCK", "SEED", "WORTH", "QUEST", "STEP", "GOAL", "USES", "NEEDS", "GIVES", "AFTER", "COSTLY", "OR", "AND", "OF", "LENGTH", "RISK", "DONE", "FAILS", "REWARD", "SEMICOLON", "COMMA", "LEFT", "RIGHT", "PLUS", "MINUS", "TIMES", "OVER"]
def tkC : List Int32 := [0, 0, 0, 0, 0, 0, 0, 0, -6, 0, 0, 0, 0, 0, 0, 0, 0, 0, 0, -1, -2, -3, -4, -5, 0, 0, 0, 0, -7, -8, -9, -10]
def tkS : List Nat := [0, 0, 0, 0, 1, 2, 3, 4, 5, 6, 7, 8, 9, 10, 11, 12, 13, 14, 15, 16, 17, 18, 19, 20, 21, 22, 23, 24, 25, 26, 27, 28]
def stO : List String := ["QuestLedger$Token", "QuestLedger$Token", "QuestLedger$Token", "QuestLedger$Token", "QuestLedger$Token", "QuestLedger$Token", "QuestLedger$Token", "QuestLedger$Token", "QuestLedger$Token", "QuestLedger$Token", "QuestLedger$Token", "QuestLedger$Token", "QuestLedger$Token", "QuestLedger$Token", "QuestLedger$Token", "QuestLedger$Token", "QuestLedger$Token", "QuestLedger$Token", "QuestLedger$Token", "QuestLedger$Token", "QuestLedger$Token", "QuestLedger$Token", "QuestLedger$Token", "QuestLedger$Token", "QuestLedger$Token", "QuestLedger$Token", "QuestLedger$Token", "QuestLedger$Token", "QuestLedger$Token", "QuestLedgerLaw", "QuestLedgerLaw", "QuestLedgerLaw", "QuestLedgerLaw", "QuestLedgerLaw", "QuestLedgerLaw", "QuestLedgerLaw", "QuestLedgerLaw", "QuestLedgerLaw", "QuestLedgerLaw", "QuestLedgerLaw", "QuestLedgerLaw", "QuestLedgerLaw", "QuestLedgerLaw", "QuestLedgerLaw", "QuestLedgerLaw", "QuestLedgerLaw", "QuestLedgerLaw", "QuestLedgerLaw$Game"]
def stK : List Nat := [144, 153, 156, 159, 162, 165, 168, 171, 174, 177, 180, 183, 186, 189, 192, 195, 198, 200, 203, 206, 209, 212, 215, 218, 221, 224, 227, 230, 233, 50, 52, 84, 86, 95, 97, 134, 136, 141, 142, 143, 145, 147, 149, 151, 153, 155, 157, 83]
def stT : List String := ["", "ledger", "stock", "seed", "worth", "quest", "step", "goal", "uses", "needs", "gives", "after", "costly", "or", "and", "of", "length", "risk", "done", "fails", "reward", ";", ",", "(", ")", "+", "-", "*", "/", "", " ", "ledger;seed ", ";stock", ";quest 1 7;", "0", "step ", "uses", "needs", "gives", " after", " costly;", ";", "goal ", " of (", ")", "0 or 1 and 2", "0 and 1", ""]
def stL : List Nat := [0, 6, 5, 4, 5, 5, 4, 4, 4, 5, 5, 5, 6, 2, 3, 2, 6, 4, 4, 5, 6, 1, 1, 1, 1, 1, 1, 1, 1, 0, 1, 12, 6, 11, 1, 5, 4, 5, 5, 6, 8, 1, 5, 5, 1, 12, 7, 0]
def stB : List (List Int32) := [[], [108, 101, 100, 103, 101, 114], [115, 116, 111, 99, 107], [115, 101, 101, 100], [119, 111, 114, 116, 104], [113, 117, 101, 115, 116], [115, 116, 101, 112], [103, 111, 97, 108], [117, 115, 101, 115], [110, 101, 101, 100, 115], [103, 105, 118, 101, 115], [97, 102, 116, 101, 114], [99, 111, 115, 116, 108, 121], [111, 114], [97, 110, 100], [111, 102], [108, 101, 110, 103, 116, 104], [114, 105, 115, 107], [100, 111, 110, 101], [102, 97, 105, 108, 115], [114, 101, 119, 97, 114, 100], [59], [44], [40], [41], [43], [45], [42], [47], [], [32], [108, 101, 100, 103, 101, 114, 59, 115, 101, 101, 100, 32], [59, 115, 116, 111, 99, 107], [59, 113, 117, 101, 115, 116, 32, 49, 32, 55, 59], [48], [115, 116, 101, 112, 32], [117, 115, 101, 115], [110, 101, 101, 100, 115], [103, 105, 118, 101, 115], [32, 97, 102, 116, 101, 114], [32, 99, 111, 115, 116, 108, 121, 59], [59], [103, 111, 97, 108, 32], [32, 111, 102, 32, 40], [41], [48, 32, 111, 114, 32, 49, 32, 97, 110, 100, 32, 50], [48, 32, 97, 110, 100, 32, 49], []]
def swC : List Int64 := [-6148914691236517206, -3689348814741910324, -1085102592571150096, -71777214294589696, -281470681808896, -4294967296]
/-- what stands at the place i -/
def ct (G : Gt) (σ : St) (i : Nat) : va_E := match kd i with
  | 0 => .inr (0, [.ref (gz G + (i + 1))])
  | 1 => .inr (1, [.ref (gz G + (i + 1)), .int (gI σ i 1), .int (gI σ i 2)])
  | 2 => .inr (2, [.ref (gz G + (i + 1)), .ref (gz G + (i + 2)), .int (gI σ i 2), .int (gI σ i 3), .ref (gz G + (i + 3)), .int (gI σ i 5), .ref (gz G + (i + 4)), .int (gI σ i 7)])
  | 3 => .inr (3, [.int (gI σ i 0), .int (gI σ i 1), .int (gI σ i 2), .int (gI σ i 3), .int (gI σ i 4), .long (gL σ i 5), .ref (gz G + (i + 1)), .ref (gz G + (i + 2)), .ref (gz G + (i + 3)), .ref (gz G + (i + 4)), .ref (gz G + (i + 5)), .ref (gz G + (i + 6)), .ref (gz G + (i + 7)), .ref (gz G + (i + 8))])
  | 4 => .inr (4, [.ref (gz G + (i + 1)), .ref (gz G + (i + 5)), .ref (gz G + (i + 7)), .int (gI σ i 3), .int (gI σ i 4), .int (gI σ i 5)])
  | 5 => .inr (5, [.ref (gz G + (i + 1)), .ref (gz G + (i + 2)), .ref (gz G + (i + 3)), .int (gI σ i 3), .int (gI σ i 4), .int (gI σ i 5), .int (gI σ i 6)])
  | 6 => .inr (6, [.ref (gz G + (i + 1)), .ref (gz G + (i + 2)), .ref (gz G + (i + 3)), .long (gL σ i 3)])
  | 7 => .inr (7, [.ref (gz G + (i + 1)), .int (gI σ i 1), .ref (gz G + (i + 2))])
  | 8 => .inr (8, [])
  | 9 => .inr (9, [.ref (gz G + (i + 1)), .int (gI σ i 1), .int (gI σ i 2), .ref (gz G + (i + 2)), .ref (gz G + (i + 61)), .ref (gz G + (i + 120)), .ref (gz G + (i + 594)), .ref (gz G + (i + 602)), .ref (gz G + (i + 606))])
  | 11 => .inl (gty G 0, alen i, .inl (gI σ i))
  | 12 => .inl (gty G 1, alen i, .inr (.inl (gL σ i)))
  | 13 => .inl (gty G 2, alen i, .inl (gI σ i))
  | 14 => .inl (gty G 3, alen i, .inr (.inr (.inr (.inl (gD σ i)))))
  | 15 => .inl (gty G 4, alen i, .inr (.inr (.inr (.inr (fun k => (gK σ i k).map (gad G))))))
  | 16 => .inl (gty G 5, alen i, .inr (.inr (.inr (.inr (fun k => some (gz G + (i + 2 + 9 * k)))))))
  | 17 => .inl (gty G 6, alen i, .inr (.inr (.inr (.inr (fun k => some (gz G + (i + 1 + 59 * k)))))))
  | _ => .inl (gty G 0, 0, .inl (fun _ => 0))
theorem ct_0 (G : Gt) (σ : St) {i : Nat} (h : kd i = 0) : ct G σ i = .inr (0, [.ref (gz G + (i + 1))]) := by unfold ct; rw [h]; rfl
theorem ct_1 (G : Gt) (σ : St) {i : Nat} (h : kd i = 1) : ct G σ i = .inr (1, [.ref (gz G + (i + 1)), .int (gI σ i 1), .int (gI σ i 2)]) := by unfold ct; rw [h]; rfl
theorem ct_2 (G : Gt) (σ : St) {i : Nat} (h : kd i = 2) : ct G σ i = .inr (2, [.ref (gz G + (i + 1)), .ref (gz G + (i + 2)), .int (gI σ i 2), .int (gI σ i 3), .ref (gz G + (i + 3)), .int (gI σ i 5), .ref (gz G + (i + 4)), .int (gI σ i 7)]) := by unfold ct; rw [h]; rfl
theorem ct_3 (G : Gt) (σ : St) {i : Nat} (h : kd i = 3) : ct G σ i = .inr (3, [.int (gI σ i 0), .int (gI σ i 1), .int (gI σ i 2), .int (gI σ i 3), .int (gI σ i 4), .long (gL σ i 5), .ref (gz G + (i + 1)), .ref (gz G + (i + 2)), .ref (gz G + (i + 3)), .ref (gz G + (i + 4)), .ref (gz G + (i + 5)), .ref (gz G + (i + 6)), .ref (gz G + (i + 7)), .ref (gz G + (i + 8))]) := by unfold ct; rw [h]; rfl
theorem ct_4 (G : Gt) (σ : St) {i : Nat} (h : kd i = 4) : ct G σ i = .inr (4, [.ref (gz G + (i + 1)), .ref (gz G + (i + 5)), .ref (gz G + (i + 7)), .int (gI σ i 3), .int (gI σ i 4), .int (gI σ i 5)]) := by unfold ct; rw [h]; rfl
theorem ct_5 (G : Gt) (σ : St) {i : Nat} (h : kd i = 5) : ct G σ i = .inr (5, [.ref (gz G + (i + 1)), .ref (gz G + (i + 2)), .ref (gz G + (i + 3)), .int (gI σ i 3), .int (gI σ i 4), .int (gI σ i 5), .int (gI σ i 6)]) := by unfold ct; rw [h]; rfl
theorem ct_6 (G : Gt) (σ : St) {i : Nat} (h : kd i = 6) : ct G σ i = .inr (6, [.ref (gz G + (i + 1)), .ref (gz G + (i + 2)), .ref (gz G + (i + 3)), .long (gL σ i 3)]) := by unfold ct; rw [h]; rfl
theorem ct_7 (G : Gt) (σ : St) {i : Nat} (h : kd i = 7) : ct G σ i = .inr (7, [.ref (gz G + (i + 1)), .int (gI σ i 1), .ref (gz G + (i + 2))]) := by unfold ct; rw [h]; rfl
theorem ct_8 (G : Gt) (σ : St) {i : Nat} (h : kd i = 8) : ct G σ i = .inr (8, []) := by unfold ct; rw [h]; rfl
theorem ct_9 (G : Gt) (σ : St) {i : Nat} (h : kd i = 9) : ct G σ i = .inr (9, [.ref (gz G + (i + 1)), .int (gI σ i 1), .int (gI σ i 2), .ref (gz G + (i + 2)), .ref (gz G + (i + 61)), .ref (gz G + (i + 120)), .ref (gz G + (i + 594)), .ref (gz G + (i + 602)), .ref (gz G + (i + 606))]) := by unfold ct; rw [h]; rfl
theorem ct_11 (G : Gt) (σ : St) {i : Nat} (h : kd i = 11) : ct G σ i = .inl (gty G 0, alen i, .inl (gI σ i)) := by unfold ct; rw [h]; rfl
theorem ct_12 (G : Gt) (σ : St) {i : Nat} (h : kd i = 12) : ct G σ i = .inl (gty G 1, alen i, .inr (.inl (gL σ i))) := by unfold ct; rw [h]; rfl
theorem ct_13 (G : Gt) (σ : St) {i : Nat} (h : kd i = 13) : ct G σ i = .inl (gty G 2, alen i, .inl (gI σ i)) := by unfold ct; rw [h]; rfl
theorem ct_14 (G : Gt) (σ : St) {i : Nat} (h : kd i = 14) : ct G σ i = .inl (gty G 3, alen i, .inr (.inr (.inr (.inl (gD σ i))))) := by unfold ct; rw [h]; rfl
theorem ct_15 (G : Gt) (σ : St) {i : Nat} (h : kd i = 15) : ct G σ i = .inl (gty G 4, alen i, .inr (.inr (.inr (.inr (fun k => (gK σ i k).map (gad G)))))) := by unfold ct; rw [h]; rfl
theorem ct_16 (G : Gt) (σ : St) {i : Nat} (h : kd i = 16) : ct G σ i = .inl (gty G 5, alen i, .inr (.inr (.inr (.inr (fun k => some (gz G + (i + 2 + 9 * k))))))) := by unfold ct; rw [h]; rfl
theorem ct_17 (G : Gt) (σ : St) {i : Nat} (h : kd i = 17) : ct G σ i = .inl (gty G 6, alen i, .inr (.inr (.inr (.inr (fun k => some (gz G + (i + 1 + 59 * k))))))) := by unfold ct; rw [h]; rfl
theorem ct_congr (G : Gt) {σ σ' : St} {j : Nat} (h1 : gI σ' j = gI σ j) (h2 : gL σ' j = gL σ j) (h3 : gK σ' j = gK σ j) (h4 : gD σ' j = gD σ j) : ct G σ' j = ct G σ j := by
  unfold ct
  rw [h1, h2, h3, h4]
def wl (G : Gt) (σ : St) : va_W := (List.range NC).map (fun i => (gz G + i, ct G σ i))
theorem wl_at (G : Gt) (σ : St) {i : Nat} (h : kd i ≠ 99) : (wl G σ)[i]? = some (gz G + i, ct G σ i) := by
  have hi : i < NC := kd_in h
  simp [wl, hi]
theorem wl_ct (G : Gt) {σ : St} {i : Nat} {e : va_E} (h : kd i ≠ 99) (he : ct G σ i = e) : (wl G σ)[i]? = some (gz G + i, e) := by rw [← he]; exact wl_at G σ h
abbrev gA (G : Gt) : Nat → Prop := G.1.2.2.2.2.2.2.2
theorem wl_D (G : Gt) (σ : St) : va_D (gA G) (wl G σ) := by
  have key : ∀ (k : Nat) (q : Nat × va_E), (wl G σ)[k]? = some q → q.1 = gz G + k := by
    intro k q hk
    unfold wl at hk
    rw [List.getElem?_map] at hk
    obtain ⟨a, ha, hq⟩ := Option.map_eq_some_iff.mp hk
    obtain ⟨h1, h2⟩ := List.getElem?_eq_some_iff.mp ha
    rw [List.getElem_range] at h2
    rw [← hq, h2]
  refine ⟨fun i j p q h1 h2 e => ?_, fun k q h => ?_⟩
  · have := key i p h1
    have := key j q h2
    omega
  · have h2 := key k q h
    rw [h2]
    refine G.2 k ?_
    have h3 := (List.getElem?_eq_some_iff.mp h).1
    simpa [wl, NC] using h3
theorem wl_set (G : Gt) {σ σ' : St} {i : Nat} {e : va_E} (he : ct G σ' i = e) (ho : ∀ j, j ≠ i → ct G σ' j = ct G σ j) : (wl G σ).set i (gz G + i, e) = wl G σ' := by
  refine List.ext_getElem? fun k => ?_
  by_cases hk : k < NC
  · by_cases hki : k = i
    · subst hki
      simp [wl, hk, he]
    · rw [List.getElem?_set_ne (Ne.symm hki)]
      simp [wl, hk, ho k hki]
  · rw [List.getElem?_eq_none (by simp [wl]; omega), List.getElem?_eq_none (by simp [wl]; omega)]
theorem gI_row (σ : St) (i : Nat) (f : Nat → Int32) : gI (rowI σ i f) i = f := by simp [gI, rowI, va_up]
theorem gI_rowNe (σ : St) {i j : Nat} (f : Nat → Int32) (h : j ≠ i) : gI (rowI σ i f) j = gI σ j := by simp [gI, rowI, va_up, h]
theorem ct_row (G : Gt) {σ : St} {i j : Nat} {f : Nat → Int32} (h : j ≠ i) : ct G (rowI σ i f) j = ct G σ j := ct_congr G (gI_rowNe σ f h) rfl rfl rfl
theorem ct_sL (G : Gt) {σ : St} {i j k : Nat} {v : Int64} (h : j ≠ i) : ct G (sL σ i k v) j = ct G σ j := ct_congr G rfl (by simp [gL, sL, va_up, h]) rfl rfl
theorem ct_sK (G : Gt) {σ : St} {i j k : Nat} {v : Option Nat} (h : j ≠ i) : ct G (sK σ i k v) j = ct G σ j := ct_congr G rfl rfl (by simp [gK, sK, va_up, h]) rfl
theorem ct_sD (G : Gt) {σ : St} {i j k : Nat} {v : UInt64} (h : j ≠ i) : ct G (sD σ i k v) j = ct G σ j := ct_congr G rfl rfl rfl (by simp [gD, sD, va_up, h])
theorem gI_sI (σ : St) (i k a b : Nat) (v : Int32) : gI (sI σ i k v) a b = if a = i then (if b = k then v else gI σ a b) else gI σ a b := by
  unfold sI
  by_cases h : a = i
  · subst h; rw [gI_row, if_pos rfl]; rfl
  · rw [gI_rowNe σ _ h, if_neg h]
theorem gL_sL (σ : St) (i k a b : Nat) (v : Int64) : gL (sL σ i k v) a b = if a = i then (if b = k then v else gL σ a b) else gL σ a b := by
  by_cases h : a = i <;> simp [gL, sL, va_up, vp_updL, h]
theorem gK_sK (σ : St) (i k a b : Nat) (v : Option Nat) : gK (sK σ i k v) a b = if a = i then (if b = k then v else gK σ a b) else gK σ a b := by
  by_cases h : a = i <;> simp [gK, sK, va_up, h]
theorem gL_sI (σ : St) (i k : Nat) (v : Int32) : gL (sI σ i k v) = gL σ := rfl
theorem gK_sI (σ : St) (i k : Nat) (v : Int32) : gK (sI σ i k v) = gK σ := rfl
theorem gD_sI (σ : St) (i k : Nat) (v : Int32) : gD (sI σ i k v) = gD σ := rfl
theorem gI_sL (σ : St) (i k : Nat) (v : Int64) : gI (sL σ i k v) = gI σ := rfl
theorem gK_sL (σ : St) (i k : Nat) (v : Int64) : gK (sL σ i k v) = gK σ := rfl
theorem gI_sK (σ : St) (i k : Nat) (v : Option Nat) : gI (sK σ i k v) = gI σ := rfl
theorem gL_sK (σ : St) (i k : Nat) (v : Option Nat) : gL (sK σ i k v) = gL σ := rfl
/-! the words: one list for all methods -/
def isCst : Cond → Bool
  | .castable _ _ => true
  | .declares _ => true
  | .privateMethod _ => true
  | _ => false
def tg (w : Cond) : Bool := (goodWord w || (w.onTables && w.keepsH)) || isCst w
def TB : List Cond := lw_tbl.filter tg
theorem mem_TB {w : Cond} (i : Nat) (h : (decide (lw_tbl[i]? = some w) && tg w) = true) : w ∈ TB := by
  rw [Bool.and_eq_true, decide_eq_true_eq] at h
  exact List.mem_filter.mpr ⟨List.mem_of_getElem? h.1, h.2⟩
theorem tg_warm {w : Cond} (hg : tg w = true) {s U : State} {a a' : Array Value} (hW : s.WarmedH U.vm) (h : w.before a s = true) : w.before a' U = true := by
  unfold tg at hg
  rw [Bool.or_eq_true, Bool.or_eq_true] at hg
  rcases hg with (hg | hg) | hg
  · exact word_at hW (good_of_word hg) h
  rotate_left
  · cases w <;> first | (simp only [isCst] at hg; exact absurd hg (by decide)) | skip
    all_goals
      first
        | (rename_i x
           have h1 : (Cond.declares x).before a (s.setVm U.vm) = true := by rw [Cond.declares_setVm hW.alike]; exact h
           have e := Cond.onTables_vm (A := a) (A' := a') (U := s) (U' := U) U.vm (Cond.declares x) rfl
           rw [e] at h1
           rwa [State.setVm_self] at h1)
        | (rename_i x
           have h1 : (Cond.privateMethod x).before a (s.setVm U.vm) = true := by rw [Cond.privateMethod_setVm hW.alike]; exact h
           have e := Cond.onTables_vm (A := a) (A' := a') (U := s) (U' := U) U.vm (Cond.privateMethod x) rfl
           rw [e] at h1
           rwa [State.setVm_self] at h1)
        | (rename_i C T
           have h1 : va_Nw (.castable C T) s := va_Nw.of rfl h
           exact (h1.warmC hW).use rfl)
  · rw [Bool.and_eq_true] at hg
    have h1 := Cond.onTables_warmH (T := U) (args' := a') hW hg.1 hg.2 h
    rwa [State.setVm_self] at h1
theorem TB_warm {s U : State} {a a' : Array Value} (hW : s.WarmedH U.vm) (h : ∀ w ∈ TB, w.before a s = true) : ∀ w ∈ TB, w.before a' U = true := fun w hw => tg_warm (List.mem_filter.mp hw).2 hW (h w hw)
/-! the statics -/
/-- the strings, each by itself (two places may hold one string) -/
def vkS (len : List Nat) (byt : List (List Int32)) (adK adV : Nat → Nat) (A : Nat → Prop) (U : State) (H : Heap) : Prop := ∀ k, k < 48 → vk_S 1 [len.getD k 0] [byt.getD k []] (fun _ => adK k) (fun _ => adV k) A U H
def EnvT (G : Gt) (U : State) (H : Heap) : Prop :=
  (∀ k, k < 32 → va_Z "QuestLedger$Token" (tkN.getD k "") "LQuestLedger$Token;" (.ref (gad G k)) (gA G) U H ∧ va_O "QuestLedger$Token" (gad G k) (gA G) U H ∧ va_OF "QuestLedger$Token" "code" "I" (.int (tkC.getD k 0)) (gad G k) (gA G) U H ∧ va_OF "QuestLedger$Token" "text" "Ljava/lang/String;" (.ref (gsK G (tkS.getD k 0))) (gad G k) (gA G) U H) ∧
  (∀ i j, gad G i = gad G j → i = j) ∧
  (va_Z "QuestLedger" "TOKENS" "[LQuestLedger$Token;" (.ref (gsA G 0)) (gA G) U H ∧ va_T (.object "QuestLedger$Token") (gsA G 0) 32 (fun k => .ref (gad G k)) (gA G) U H) ∧
  (va_Z "QuestLedger" "SETS_WITH" "[J" (.ref (gsA G 1)) (gA G) U H ∧ va_T .long (gsA G 1) 6 (fun k => .long (swC.getD k 0)) (gA G) U H) ∧
  vkS stL stB (gsK G) (gsV G) (gA G) U H ∧
  (∀ k, k < 48 → vk_R (stO.getD k "") (stK.getD k 0) (stT.getD k "") (gsK G k) U) ∧
  va_Z "java/lang/String" "COMPACT_STRINGS" "Z" (.int 1) (gA G) U H ∧
  va_Zq "jdk/internal/util/Preconditions" "SIOOBE_FORMATTER" "Ljava/util/function/BiFunction;" (gA G) U H ∧
  vx_Zq Bundle.tN "UNASSIGNED_STACK" Bundle.steD (gA G) U H ∧
  vx_Zq Bundle.tN "SUPPRESSED_SENTINEL" Bundle.listD (gA G) U H ∧
  True
theorem EnvT.go {G : Gt} {u U : State} {H H1 : Heap} (hW : u.WarmedH U.vm) (hq : ∀ a : Nat, a < H.size → ¬ gA G a → H1[a]? = H[a]?) (h : EnvT G u H) : EnvT G U H1 := by
  obtain ⟨h1, h2, h3, h4, h5, h6, h7, h8, h9, h10, h11⟩ := h
  have hm := hW.alike
  exact ⟨fun k hk => ⟨((h1 k hk).1.moved hm).kept hq, ((h1 k hk).2.1.moved hm).kept hq, ((h1 k hk).2.2.1.moved hm).kept hq, ((h1 k hk).2.2.2.moved hm).kept hq⟩, h2, ⟨(h3.1.moved hm).kept hq, (h3.2.moved hm).kept hq⟩, ⟨(h4.1.moved hm).kept hq, (h4.2.moved hm).kept hq⟩, fun k hk => ((h5 k hk).moved hm).kept hq, fun k hk => (h6 k hk).warm hW, (h7.moved hm).kept hq, (h8.moved hm).kept hq, (h9.moved hm).kept hq, (h10.moved hm).kept hq, h11⟩
def EnvS (G : Gt) (U : State) : Prop := va_K (gDD G) vwCl (tysG G) U ∧ gz G ≤ U.heap.size ∧ EnvT G U U.heap
def GW (G : Gt) (σ : St) (s : State) (H : Heap) (locs : List Loc) : Prop := va_P (gDD G) vwCl (wl G σ) H ∧ va_S (gA G) s.heap H locs
/-- a method's start -/
def GP (G : Gt) (σ : St) (U : State) : Prop := (∀ w ∈ TB, w.before #[] U = true) ∧ EnvS G U ∧ va_P (gDD G) vwCl (wl G σ) U.heap
/-- a method's end: the answer, and the state -/
def Qx (G : Gt) (ov : Option Value) (σ' : St) : Array Value → State → Outcome → State → Prop := fun _ st oc t => oc = .returned ov ∧ va_P (gDD G) vwCl (wl G σ') t.heap ∧ va_F (gA G) st t
def rmH (h : Nat) : Room := { frames := h, cells := 0, slots := 0, locals := 40 * h }
def Ct (G : Gt) (l : Launch) (y : MethodName) (cc : ByteArray) (maxL : Nat) (ret : Option FieldType) (h : Nat) (av : List Value) (σ : St) (ov : Option Value) (σ' : St) : Prop :=
  Met l y [.code y cc maxL ret] (rmH h) (va_Pc av (GP G σ)) (Qx G ov σ') 0 0 (gA G)
/-- what holds all along a method: its own code, the words, the statics, its room -/
def Cx (G : Gt) (p : Program) (R : Room) (s : State) (m : MethodId) (args : Array Value) (c : Code) (cells slots : Nat) (cc : ByteArray) (nL : Nat) (own : String) (h : Nat) : Prop :=
  CallFix p m c cc nL s args TB own ∧ EnvS G s ∧ h ≤ R.frames ∧ 40 * h ≤ R.locals ∧ cells ≤ R.cells ∧ slots ≤ R.slots
section CX
variable {G : Gt} {p : Program} {l : Launch} {e : Env} {R : Room} {s : State} {m : MethodId} {args : Array Value} {below : List Frame} {meth : Method} {c : Code} {H : Heap} {locs : List Loc} {cells slots : Nat} {Q : State → Prop}
variable {cc bytes : ByteArray} {nL h h2 : Nat} {own C : String} {pc : Nat} {ls : Array Slot} {rest : List Value} {σ σ' : St}
theorem GW.P (hW : GW G σ s H locs) : va_P (gDD G) vwCl (wl G σ) H := hW.1
theorem Cx.env (X : Cx G p R s m args c cells slots cc nL own h) (hW : GW G σ s H locs) {U : State} (hU : U.heap = H) (hw : s.WarmedH U.vm) : GP G σ U := by
  obtain ⟨⟨-, -, -, -, hts⟩, ⟨hK, hz, hT⟩, -⟩ := X
  obtain ⟨hP, hS⟩ := hW
  refine ⟨TB_warm hw hts, ⟨va_K.moved hw.alike hK, by rw [hU]; exact Nat.le_trans hz hS.1, ?_⟩, by rw [hU]; exact hP⟩
  refine hT.go hw ?_
  rw [hU]
  exact hS.2.1
theorem GP_blind (av : List Value) (σ : St) : FrameBlind (va_Pc av (GP G σ)) := by
  intro a U g mk q
  obtain ⟨q0, q1, ⟨q2, q3, q4⟩, q5⟩ := q
  have hm : U.vm.Alike (U.calling g mk a).vm := Vm.Alike.refl U.vm
  have hW : U.WarmedH (U.calling g mk a).vm := State.WarmedH.refl U
  exact ⟨q0, TB_warm hW q1, ⟨va_K.moved hm q2, q3, q4.go hW (fun _ _ _ => rfl)⟩, q5⟩
/-- behind a call -/
theorem g_back {ov : Option Value} {st0 : List Value} {a : Array Value} (X : Cx G p R s m args c cells slots cc nL own h) (hW : GW G σ s H locs) (hr : va_Run p l e R s m args below meth c H locs cells slots 0 0 (F0 m pc ls st0) rest (Qx G ov σ' a) (gA G))
    (kk : ∀ (H1 : Heap) (locs1 : List Loc), GW G σ' s H1 locs1 → W p l e R s m args below meth c H1 locs1 cells slots Q (F0 m (pc + 3) ls (ov.toList ++ rest))) : W p l e R s m args below meth c H locs cells slots Q (F0 m pc ls st0) := by
  intro T hT X1
  obtain ⟨v, st₀, t, T', L, h0, X', hL, e1, e2, ⟨hv, hP, hz, hk⟩, st⟩ := hr T hT X1
  cases hv
  rw [h0] at hz hk
  obtain ⟨hP0, hS⟩ := hW
  obtain ⟨t2, a1, b1⟩ := kk T'.heap (locs ++ L) ⟨by rw [e1]; exact hP, Nat.le_trans hS.1 (by rw [e1]; exact hz), fun q h1 h2 => by rw [e1, hk q (Nat.lt_of_lt_of_le h1 hS.1) h2]; exact hS.2.1 q h1 h2, fun q hq => by
      rcases List.mem_append.mp hq with h | h
      · exact hS.2.2 q h
      · exact hL q h⟩ T' rfl X'
  exact ⟨t2, st t2 a1, b1⟩
end CX
theorem kf_X0_atLeast {i : Nat} (h : kd i = 0) : kd (i + 1) = 12 := kd_all (P := fun i => kd i = 0 → kd (i + 1) = 12) (by decide +kernel) (by rw [h]; decide) h
theorem af_X0_atLeast {i : Nat} (h : kd i = 0) : alen (i + 1) = 28 := kd_all (P := fun i => kd i = 0 → alen (i + 1) = 28) (by decide +kernel) (by rw [h]; decide) h
theorem kf_X1_past {i : Nat} (h : kd i = 1) : kd (i + 1) = 17 := kd_all (P := fun i => kd i = 1 → kd (i + 1) = 17) (by decide +kernel) (by rw [h]; decide) h
theorem af_X1_past {i : Nat} (h : kd i = 1) : alen (i + 1) = 8 := kd_all (P := fun i => kd i = 1 → alen (i + 1) = 8) (by decide +kernel) (by rw [h]; decide) h
theorem kf_X2_stock {i : Nat} (h : kd i = 2) : kd (i + 1) = 11 := kd_all (P := fun i => kd i = 2 → kd (i + 1) = 11) (by decide +kernel) (by rw [h]; decide) h
theorem af_X2_stock {i : Nat} (h : kd i = 2) : alen (i + 1) = 8 := kd_all (P := fun i => kd i = 2 → alen (i + 1) = 8) (by decide +kernel) (by rw [h]; decide) h
theorem kf_X2_queue {i : Nat} (h : kd i = 2) : kd (i + 2) = 11 := kd_all (P := fun i => kd i = 2 → kd (i + 2) = 11) (by decide +kernel) (by rw [h]; decide) h
theorem af_X2_queue {i : Nat} (h : kd i = 2) : alen (i + 2) = 40 := kd_all (P := fun i => kd i = 2 → alen (i + 2) = 40) (by decide +kernel) (by rw [h]; decide) h
theorem kf_X2_quests {i : Nat} (h : kd i = 2) : kd (i + 3) = 16 := kd_all (P := fun i => kd i = 2 → kd (i + 3) = 16) (by decide +kernel) (by rw [h]; decide) h
theorem af_X2_quests {i : Nat} (h : kd i = 2) : alen (i + 3) = 6 := kd_all (P := fun i => kd i = 2 → alen (i + 3) = 6) (by decide +kernel) (by rw [h]; decide) h
theorem kf_X2_worthCode {i : Nat} (h : kd i = 2) : kd (i + 4) = 11 := kd_all (P := fun i => kd i = 2 → kd (i + 4) = 11) (by decide +kernel) (by rw [h]; decide) h
theorem af_X2_worthCode {i : Nat} (h : kd i = 2) : alen (i + 4) = 800 := kd_all (P := fun i => kd i = 2 → alen (i + 4) = 800) (by decide +kernel) (by rw [h]; decide) h
theorem kf_X3_risk {i : Nat} (h : kd i = 3) : kd (i + 1) = 11 := kd_all (P := fun i => kd i = 3 → kd (i + 1) = 11) (by decide +kernel) (by rw [h]; decide) h
theorem af_X3_risk {i : Nat} (h : kd i = 3) : alen (i + 1) = 6 := kd_all (P := fun i => kd i = 3 → alen (i + 1) = 6) (by decide +kernel) (by rw [h]; decide) h
theorem kf_X3_limit {i : Nat} (h : kd i = 3) : kd (i + 2) = 11 := kd_all (P := fun i => kd i = 3 → kd (i + 2) = 11) (by decide +kernel) (by rw [h]; decide) h
theorem af_X3_limit {i : Nat} (h : kd i = 3) : alen (i + 2) = 6 := kd_all (P := fun i => kd i = 3 → alen (i + 2) = 6) (by decide +kernel) (by rw [h]; decide) h
theorem kf_X3_fails {i : Nat} (h : kd i = 3) : kd (i + 3) = 11 := kd_all (P := fun i => kd i = 3 → kd (i + 3) = 11) (by decide +kernel) (by rw [h]; decide) h
theorem af_X3_fails {i : Nat} (h : kd i = 3) : alen (i + 3) = 6 := kd_all (P := fun i => kd i = 3 → alen (i + 3) = 6) (by decide +kernel) (by rw [h]; decide) h
theorem kf_X3_ahead {i : Nat} (h : kd i = 3) : kd (i + 4) = 11 := kd_all (P := fun i => kd i = 3 → kd (i + 4) = 11) (by decide +kernel) (by rw [h]; decide) h
theorem af_X3_ahead {i : Nat} (h : kd i = 3) : alen (i + 4) = 6 := kd_all (P := fun i => kd i = 3 → alen (i + 4) = 6) (by decide +kernel) (by rw [h]; decide) h
theorem kf_X3_costly {i : Nat} (h : kd i = 3) : kd (i + 5) = 11 := kd_all (P := fun i => kd i = 3 → kd (i + 5) = 11) (by decide +kernel) (by rw [h]; decide) h
theorem af_X3_costly {i : Nat} (h : kd i = 3) : alen (i + 5) = 6 := kd_all (P := fun i => kd i = 3 → alen (i + 5) = 6) (by decide +kernel) (by rw [h]; decide) h
theorem kf_X3_uses {i : Nat} (h : kd i = 3) : kd (i + 6) = 11 := kd_all (P := fun i => kd i = 3 → kd (i + 6) = 11) (by decide +kernel) (by rw [h]; decide) h
theorem af_X3_uses {i : Nat} (h : kd i = 3) : alen (i + 6) = 48 := kd_all (P := fun i => kd i = 3 → alen (i + 6) = 48) (by decide +kernel) (by rw [h]; decide) h
theorem kf_X3_needs {i : Nat} (h : kd i = 3) : kd (i + 7) = 11 := kd_all (P := fun i => kd i = 3 → kd (i + 7) = 11) (by decide +kernel) (by rw [h]; decide) h
theorem af_X3_needs {i : Nat} (h : kd i = 3) : alen (i + 7) = 48 := kd_all (P := fun i => kd i = 3 → alen (i + 7) = 48) (by decide +kernel) (by rw [h]; decide) h
theorem kf_X3_gives {i : Nat} (h : kd i = 3) : kd (i + 8) = 11 := kd_all (P := fun i => kd i = 3 → kd (i + 8) = 11) (by decide +kernel) (by rw [h]; decide) h
theorem af_X3_gives {i : Nat} (h : kd i = 3) : alen (i + 8) = 48 := kd_all (P := fun i => kd i = 3 → alen (i + 8) = 48) (by decide +kernel) (by rw [h]; decide) h
theorem kf_X4_tokens {i : Nat} (h : kd i = 4) : kd (i + 1) = 5 := kd_all (P := fun i => kd i = 4 → kd (i + 1) = 5) (by decide +kernel) (by rw [h]; decide) h
theorem kf_X4_goals {i : Nat} (h : kd i = 4) : kd (i + 5) = 0 := kd_all (P := fun i => kd i = 4 → kd (i + 5) = 0) (by decide +kernel) (by rw [h]; decide) h
theorem kf_X4_worths {i : Nat} (h : kd i = 4) : kd (i + 7) = 8 := kd_all (P := fun i => kd i = 4 → kd (i + 7) = 8) (by decide +kernel) (by rw [h]; decide) h
theorem kf_X6_kinds {i : Nat} (h : kd i = 5) : kd (i + 1) = 15 := kd_all (P := fun i => kd i = 5 → kd (i + 1) = 15) (by decide +kernel) (by rw [h]; decide) h
theorem af_X6_kinds {i : Nat} (h : kd i = 5) : alen (i + 1) = 801 := kd_all (P := fun i => kd i = 5 → alen (i + 1) = 801) (by decide +kernel) (by rw [h]; decide) h
theorem kf_X6_starts {i : Nat} (h : kd i = 5) : kd (i + 2) = 11 := kd_all (P := fun i => kd i = 5 → kd (i + 2) = 11) (by decide +kernel) (by rw [h]; decide) h
theorem af_X6_starts {i : Nat} (h : kd i = 5) : alen (i + 2) = 801 := kd_all (P := fun i => kd i = 5 → alen (i + 2) = 801) (by decide +kernel) (by rw [h]; decide) h
theorem kf_X6_numbers {i : Nat} (h : kd i = 5) : kd (i + 3) = 11 := kd_all (P := fun i => kd i = 5 → kd (i + 3) = 11) (by decide +kernel) (by rw [h]; decide) h
theorem af_X6_numbers {i : Nat} (h : kd i = 5) : alen (i + 3) = 801 := kd_all (P := fun i => kd i = 5 → alen (i + 3) = 801) (by decide +kernel) (by rw [h]; decide) h
theorem kf_X7_stocks {i : Nat} (h : kd i = 6) : kd (i + 1) = 11 := kd_all (P := fun i => kd i = 6 → kd (i + 1) = 11) (by decide +kernel) (by rw [h]; decide) h
theorem af_X7_stocks {i : Nat} (h : kd i = 6) : alen (i + 1) = 512 := kd_all (P := fun i => kd i = 6 → alen (i + 1) = 512) (by decide +kernel) (by rw [h]; decide) h
theorem kf_X7_stepsToTry {i : Nat} (h : kd i = 6) : kd (i + 2) = 11 := kd_all (P := fun i => kd i = 6 → kd (i + 2) = 11) (by decide +kernel) (by rw [h]; decide) h
theorem af_X7_stepsToTry {i : Nat} (h : kd i = 6) : alen (i + 2) = 64 := kd_all (P := fun i => kd i = 6 → alen (i + 2) = 64) (by decide +kernel) (by rw [h]; decide) h
theorem kf_X7_toGo {i : Nat} (h : kd i = 6) : kd (i + 3) = 11 := kd_all (P := fun i => kd i = 6 → kd (i + 3) = 11) (by decide +kernel) (by rw [h]; decide) h
theorem af_X7_toGo {i : Nat} (h : kd i = 6) : alen (i + 3) = 64 := kd_all (P := fun i => kd i = 6 → alen (i + 3) = 64) (by decide +kernel) (by rw [h]; decide) h
theorem kf_X8_stack {i : Nat} (h : kd i = 7) : kd (i + 1) = 11 := kd_all (P := fun i => kd i = 7 → kd (i + 1) = 11) (by decide +kernel) (by rw [h]; decide) h
theorem af_X8_stack {i : Nat} (h : kd i = 7) : alen (i + 1) = 11 := kd_all (P := fun i => kd i = 7 → alen (i + 1) = 11) (by decide +kernel) (by rw [h]; decide) h
theorem kf_X8_seen {i : Nat} (h : kd i = 7) : kd (i + 2) = 11 := kd_all (P := fun i => kd i = 7 → kd (i + 2) = 11) (by decide +kernel) (by rw [h]; decide) h
theorem af_X8_seen {i : Nat} (h : kd i = 7) : alen (i + 2) = 6 := kd_all (P := fun i => kd i = 7 → alen (i + 2) = 6) (by decide +kernel) (by rw [h]; decide) h
theorem kf_X10_buffer {i : Nat} (h : kd i = 9) : kd (i + 1) = 11 := kd_all (P := fun i => kd i = 9 → kd (i + 1) = 11) (by decide +kernel) (by rw [h]; decide) h
theorem af_X10_buffer {i : Nat} (h : kd i = 9) : alen (i + 1) = 800 := kd_all (P := fun i => kd i = 9 → alen (i + 1) = 800) (by decide +kernel) (by rw [h]; decide) h
theorem kf_X10_now {i : Nat} (h : kd i = 9) : kd (i + 2) = 2 := kd_all (P := fun i => kd i = 9 → kd (i + 2) = 2) (by decide +kernel) (by rw [h]; decide) h
theorem kf_X10_draft {i : Nat} (h : kd i = 9) : kd (i + 61) = 2 := kd_all (P := fun i => kd i = 9 → kd (i + 61) = 2) (by decide +kernel) (by rw [h]; decide) h
theorem kf_X10_history {i : Nat} (h : kd i = 9) : kd (i + 120) = 1 := kd_all (P := fun i => kd i = 9 → kd (i + 120) = 1) (by decide +kernel) (by rw [h]; decide) h
theorem kf_X10_reader {i : Nat} (h : kd i = 9) : kd (i + 594) = 4 := kd_all (P := fun i => kd i = 9 → kd (i + 594) = 4) (by decide +kernel) (by rw [h]; decide) h
theorem kf_X10_ways {i : Nat} (h : kd i = 9) : kd (i + 602) = 6 := kd_all (P := fun i => kd i = 9 → kd (i + 602) = 6) (by decide +kernel) (by rw [h]; decide) h
theorem kf_X10_worthMeter {i : Nat} (h : kd i = 9) : kd (i + 606) = 7 := kd_all (P := fun i => kd i = 9 → kd (i + 606) = 7) (by decide +kernel) (by rw [h]; decide) h
theorem kq_16 {i : Nat} (h : kd i = 16) {k : Nat} (hk : k < alen i) : kd (i + 2 + 9 * k) = 3 := kd_all (P := fun i => kd i = 16 → ∀ k, k < alen i → kd (i + 2 + 9 * k) = 3) (by decide +kernel) (by rw [h]; decide) h k hk
theorem kq_17 {i : Nat} (h : kd i = 17) {k : Nat} (hk : k < alen i) : kd (i + 1 + 59 * k) = 2 := kd_all (P := fun i => kd i = 17 → ∀ k, k < alen i → kd (i + 1 + 59 * k) = 2) (by decide +kernel) (by rw [h]; decide) h k hk
