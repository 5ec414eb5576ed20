/-! THE WORLD: every cell of class, reference and law has a fixed place i; a state says what the cells hold. kd: what a place is; ct: what stands there; GW: the heap holds the state; Ct: a method's contract (start state, answer, end state). -/
def bnd {α β : Type} (e : α) (f : α → β) : β := f e
theorem bnd_at {α β : Type} {e v : α} {f : α → β} {r : β} (h : bnd e f = r) (ev : v = e) : f v = r := by subst ev; exact h
theorem if_t {α : Type} {c : Prop} [Decidable c] {a b r : α} (hc : c) (h : (if c then a else b) = r) : a = r := by rw [if_pos hc] at h; exact h
theorem if_f {α : Type} {c : Prop} [Decidable c] {a b r : α} (hc : ¬ c) (h : (if c then a else b) = r) : b = r := by rw [if_neg hc] at h; exact h
theorem bind_el {α β : Type} {o : Option α} {f : α → Option β} {r : β} (h : o.bind f = some r) : ∃ a, o = some a ∧ f a = some r := Option.bind_eq_some_iff.mp h
def bnd2 {α β γ : Type} (o : Option (α × β)) (f : α → β → Option γ) : Option γ := o.bind fun q => f q.1 q.2
theorem bnd2_el {α β γ : Type} {o : Option (α × β)} {f : α → β → Option γ} {r : γ} (h : bnd2 o f = some r) : ∃ a b, o = some (a, b) ∧ f a b = some r := by
  obtain ⟨⟨a, b⟩, h1, h2⟩ := bind_el h
  exact ⟨a, b, h1, h2⟩
/-- an index in range, else nothing -/
def ckI {α : Type} (j : Int32) (n : Nat) (x : Option α) : Option α := if j < 0 ∨ n ≤ j.toNatClampNeg then none else x
theorem ckI_el {α : Type} {j : Int32} {n : Nat} {x : Option α} {r : α} (h : ckI j n x = some r) : vp_in j n ∧ x = some r := by
  unfold ckI at h
  by_cases hc : j < 0 ∨ n ≤ j.toNatClampNeg
  · rw [if_pos hc] at h; cases h
  · rw [if_neg hc] at h; exact ⟨hc, h⟩
/-- a divisor that isn't 0, else nothing -/
def ckN {α : Type} (y : Int32) (x : Option α) : Option α := if y = 0 then none else x
theorem ckN_el {α : Type} {y : Int32} {x : Option α} {r : α} (h : ckN y x = some r) : ¬ y = 0 ∧ x = some r := by
  unfold ckN at h
  by_cases hc : y = 0
  · rw [if_pos hc] at h; cases h
  · rw [if_neg hc] at h; exact ⟨hc, h⟩
def ckL {α : Type} (y : Int64) (x : Option α) : Option α := if y = 0 then none else x
theorem ckL_el {α : Type} {y : Int64} {x : Option α} {r : α} (h : ckL y x = some r) : ¬ y = 0 ∧ x = some r := by
  unfold ckL at h
  by_cases hc : y = 0
  · rw [if_pos hc] at h; cases h
  · rw [if_neg hc] at h; exact ⟨hc, h⟩
/-- a truth value, else nothing -/
def ckZ {α : Type} (y : Int32) (x : Option α) : Option α := if y = 0 ∨ y = 1 then x else none
theorem ckZ_el {α : Type} {y : Int32} {x : Option α} {r : α} (h : ckZ y x = some r) : (y = 0 ∨ y = 1) ∧ x = some r := by
  unfold ckZ at h
  by_cases hc : y = 0 ∨ y = 1
  · rw [if_pos hc] at h; exact ⟨hc, h⟩
  · rw [if_neg hc] at h; cases h
/-- one of the 32 tokens, else nothing -/
def ckT {α : Type} (y : Option Nat) (f : Nat → Option α) : Option α := match y with
  | none => none
  | some k => if k < 32 then f k else none
theorem ckT_el {α : Type} {y : Option Nat} {f : Nat → Option α} {r : α} (h : ckT y f = some r) : ∃ k, y = some k ∧ k < 32 ∧ f k = some r := by
  cases y with
  | none => cases h
  | some k =>
    unfold ckT at h
    by_cases hc : k < 32
    · simp only [if_pos hc] at h; exact ⟨k, rfl, hc, h⟩
    · simp only [if_neg hc] at h; cases h
/-- the exceptions, by number -/
def exN : Nat → String
  | 1 => "java/lang/IllegalArgumentException"
  | 2 => "java/lang/IndexOutOfBoundsException"
  | 3 => "java/lang/IllegalStateException"
  | _ => "java/util/NoSuchElementException"
noncomputable def FU : Nat := 1000000
def ishl (x y : Int32) : Int32 := x <<< (y &&& 31)
def ishr (x y : Int32) : Int32 := x >>> (y &&& 31)
def iushr (x y : Int32) : Int32 := (x.toUInt32 >>> (y.toUInt32 &&& Int32.toUInt32 31)).toInt32
def lushr (x : Int64) (y : Int32) : Int64 := (x.toUInt64 >>> (y.toInt64.toUInt64 &&& Int64.toUInt64 63)).toInt64
def lshl (x : Int64) (y : Int32) : Int64 := x <<< (y.toInt64 &&& 63)
def irem (x y : Int32) : Int32 := x - x / y * y
def imax (x y : Int32) : Int32 := if x < y then y else x
def imin (x y : Int32) : Int32 := if y < x then y else x
def lmax (x y : Int64) : Int64 := if x < y then y else x
def lmin (x y : Int64) : Int64 := if y < x then y else x
/-- what the cells hold: ints, longs, tokens, doubles, by place and slot -/
abbrev St : Type := (Nat → Nat → Int32) × (Nat → Nat → Int64) × (Nat → Nat → Option Nat) × (Nat → Nat → UInt64)
def gI (σ : St) : Nat → Nat → Int32 := σ.1
def gL (σ : St) : Nat → Nat → Int64 := σ.2.1
def gK (σ : St) : Nat → Nat → Option Nat := σ.2.2.1
def gD (σ : St) : Nat → Nat → UInt64 := σ.2.2.2
def rowI (σ : St) (i : Nat) (f : Nat → Int32) : St := (va_up σ.1 i f, σ.2)
def sI (σ : St) (i k : Nat) (v : Int32) : St := rowI σ i (upd (gI σ i) k v)
def sL (σ : St) (i k : Nat) (v : Int64) : St := (σ.1, va_up σ.2.1 i (vp_updL (σ.2.1 i) k v), σ.2.2)
def sK (σ : St) (i k : Nat) (v : Option Nat) : St := (σ.1, σ.2.1, va_up σ.2.2.1 i (va_up (σ.2.2.1 i) k v), σ.2.2.2)
def sD (σ : St) (i k : Nat) (v : UInt64) : St := (σ.1, σ.2.1, σ.2.2.1, va_up σ.2.2.2 i (va_up (σ.2.2.2 i) k v))
/-- z, classes and slots, array classes, tokens, strings, their bytes, static arrays -/
abbrev Gt : Type := Nat × va_G × (Nat → ClassId) × (Nat → Nat) × (Nat → Nat) × (Nat → Nat) × (Nat → Nat)
def gz (G : Gt) : Nat := G.1
def gDD (G : Gt) : va_G := G.2.1
def gty (G : Gt) : Nat → ClassId := G.2.2.1
def gad (G : Gt) : Nat → Nat := G.2.2.2.1
def gsK (G : Gt) : Nat → Nat := G.2.2.2.2.1
def gsV (G : Gt) : Nat → Nat := G.2.2.2.2.2.1
def gsA (G : Gt) : Nat → Nat := G.2.2.2.2.2.2
abbrev tysG (G : Gt) : List (ClassId × FieldType) := [(gty G 0, .int), (gty G 1, .long), (gty G 2, .boolean), (gty G 3, .double), (gty G 4, .object "QuestLedger$Token"), (gty G 5, .object "QuestLedger$Quest"), (gty G 6, .object "QuestLedger$Ledger")]
def kdB : Nat := 461959954237196164093751432156431348546917489420647347564513903774600989404695055139899322247032328772267231191927035154316289176232498909492856404368141208288528193803240458833457839634510360126331340804376733550833775848787098223604035517473044555470265846114817875437820953853832773623057212263338437915613640368090746518022455840849666764302872468264166639385934259092393711485746549074818284217602723294741147560789259355711790489190749657302048901019200832625016279911348421302699369394762569535562624527300911524133628749235400039350261587015367588994112040616898703493935068082485296072023381076515070909488524832329227338415804615118354343010452272768100460531668647493907461803853637942261536683960232970685979576298279500618055468248344222418607819691514017649240151008616435061646627855071062301676629994018122219985872341678443554756651502880095137355509520119605584076441128107724923574523309401409947908859594462242163410478279213393824949507226350775655323433027915777236530408307178796401065674257205722927405552247696192315318532990006137538789677101256601592765419255339446426293425648148222769166695734571338521595819600458379600535811615201357805870281057535985835712231499741771030030983950271050451510540178961149500647860409276423455879594919912093083142536392680932650123091973794448032969941089120084834895690501470077163021022924729337707903997367228185319641452742603214138488119791020851127151649555979382076338837489377337319719988799485159119389717135939944384170761
def alB : Nat := 1081542401678286524499904463071376266605173124040049805492555132645822763446768364959434316022278781966851151314350501050097433872684941728473902898206551366173814384869575065072272138133804104811420534608955932217629508173535656898852260535423551032115013783961483447930534861975774737530182604104983007395958319389561109516340617336738015454410742049381071669355063473297706069149733232033502501897150492481005738735176520225400462487656318741987394323024974688919230162838039696456201487723610287454628130283088243594234119514379189306352405040715693909711709040470916280578977281454164158420140345066641660125169762354332402995129858536746670163746299337681630071476410147548945809484595566477777006785509365262164795329533789263062435766944149242250789320954194863765964523130377086551253085387162123814538009629410697181655884238965090290796501254955598497567552046753691661876757567013464528590207393394818044668338687527386269188828363799867880761756308782139960694029075161418850998719892789239211741973445149808186505489481474730743399165871146829911435671856224898280124464327138491377099899184593110831722041886197870247166599360973016286451488711421049613447035489790708311565580109481938821670492088422639754673919722458120080625378382392755072816815387335094872575663664432972482901341754793657202643823014218623437371115156748900148652033392382942556061267457597127948888765042285545218096290948459831162074185892254184367731894133276689206618630094357094392317047307157004194810963462572377660877484666785327220460733625149500634683710271199495442004908107638899970583102175389367013269626212529790539277539209691940841844362435358298812820499278784211360220132275240096491089907025521594131110263888410057796685683431925066011063338464608513888431126448857095600990285097177748040708620852756441425624306583514345313978110753791516186489930647565435786046038380600404009909404003378684781168874765902900537587863483575159743138150212442789458667796186694008176663821353921977458278410120739434232651564163332321938373499416260738760650836344993266571245306300198487912237451343716575322678296641357075499373084785957121005476633592386787059142171732234503250722840773362743063163693267817928337496942639721832350934706453957135001937811340025487151886219872595599827154590385729885317878072720943379195822297809045892337980614599120431889603032594875139229471194131446601278459106568880082560534525378486375455668493915261520037016076914363960994539193140143974553136239255584633786221520007329321448147731301210103910556818337263277965619609581311340652293346230570211274988236180911581244958722501654655833982337793695901014636993413173515665631159395601838229408295359551751791637099911014185717284023352672051204622949018693062065118235757617361013356052533649589808270498340538770929620564177748703508033848625078528895744532082452854909059571041013162253487144849211919142990275722633901288542451754465343958581074828613744108871478543974097980427956126103516213149696
def NC : Nat := 622
def kd (i : Nat) : Nat := if i < 622 then (kdB >>> (8 * i)) % 256 else 99
def alen (i : Nat) : Nat := if i < 622 then (alB >>> (16 * i)) % 65536 else 0
theorem kd_in {i : Nat} (h : kd i ≠ 99) : i < 622 := by
  rcases Nat.lt_or_ge i 622 with q | q
  · exact q
  · refine absurd ?_ h
    unfold kd
    exact if_neg (by omega)
/-- a fact of all places, by the kernel -/
theorem kd_all {P : Nat → Prop} [DecidablePred P] (h : (List.range 622).all (fun i => decide (P i)) = true) {i : Nat} (hi : kd i ≠ 99) : P i := co_dec h (kd_in hi)
def tkN : List String := ["NUMBER", "END", "UNKNOWN", "NOTHING", "LEDGER", "STOCK", "SEED", "WORTH", "QUEST", "STEP", "GOAL", "USES", "NEEDS", "GIVES", "AFTER", "COSTLY", "OR", "AND", "OF", "LENGTH", "RISK", "DONE", "FAILS", "REWARD", "SEMICOLON", "COMMA", "LEFT", "RIGHT", "PLUS", "MINUS", "TIMES", "OVER"]
def tkC : List Int32 := [0, 0, 0, 0, 0, 0, 0, 0, -6, 0, 0, 0, 0, 0, 0, 0, 0, 0, 0, -1, -2, -3, -4, -5, 0, 0, 0, 0, -7, -8, -9, -10]
def tkS : List Nat := [0, 0, 0, 0, 1, 2, 3, 4, 5, 6, 7, 8, 9, 10, 11, 12, 13, 14, 15, 16, 17, 18, 19, 20, 21, 22, 23, 24, 25, 26, 27, 28]
def stO : List String := ["QuestLedger$Token", "QuestLedger$Token", "QuestLedger$Token", "QuestLedger$Token", "QuestLedger$Token", "QuestLedger$Token", "QuestLedger$Token", "QuestLedger$Token", "QuestLedger$Token", "QuestLedger$Token", "QuestLedger$Token", "QuestLedger$Token", "QuestLedger$Token", "QuestLedger$Token", "QuestLedger$Token", "QuestLedger$Token", "QuestLedger$Token", "QuestLedger$Token", "QuestLedger$Token", "QuestLedger$Token", "QuestLedger$Token", "QuestLedger$Token", "QuestLedger$Token", "QuestLedger$Token", "QuestLedger$Token", "QuestLedger$Token", "QuestLedger$Token", "QuestLedger$Token", "QuestLedger$Token", "QuestLedgerModel", "QuestLedgerModel", "QuestLedgerModel", "QuestLedgerModel", "QuestLedgerModel", "QuestLedgerModel", "QuestLedgerModel", "QuestLedgerModel", "QuestLedgerModel", "QuestLedgerModel", "QuestLedgerModel", "QuestLedgerModel", "QuestLedgerModel", "QuestLedgerModel", "QuestLedgerModel", "QuestLedgerModel", "QuestLedgerModel", "QuestLedgerModel", "QuestLedgerModel", "QuestLedgerModel"]
def stK : List Nat := [144, 153, 156, 159, 162, 165, 168, 171, 174, 177, 180, 183, 186, 189, 192, 195, 198, 200, 203, 206, 209, 212, 215, 218, 221, 224, 227, 230, 233, 208, 213, 215, 217, 218, 220, 255, 266, 271, 276, 281, 283, 285, 290, 295, 300, 302, 308, 313, 315]
def stT : List String := ["", "ledger", "stock", "seed", "worth", "quest", "step", "goal", "uses", "needs", "gives", "after", "costly", "or", "and", "of", "length", "risk", "done", "fails", "reward", ";", ",", "(", ")", "+", "-", "*", "/", "length", "risk", "done", "fails", "reward", "quest", "of", "and", "or", "uses", "needs", "gives", "after", "costly", "step", "goal", "seed", "worth", "ledger", "stock"]
def stL : List Nat := [0, 6, 5, 4, 5, 5, 4, 4, 4, 5, 5, 5, 6, 2, 3, 2, 6, 4, 4, 5, 6, 1, 1, 1, 1, 1, 1, 1, 1, 6, 4, 4, 5, 6, 5, 2, 3, 2, 4, 5, 5, 5, 6, 4, 4, 4, 5, 6, 5]
def stB : List (List Int32) := [[], [108, 101, 100, 103, 101, 114], [115, 116, 111, 99, 107], [115, 101, 101, 100], [119, 111, 114, 116, 104], [113, 117, 101, 115, 116], [115, 116, 101, 112], [103, 111, 97, 108], [117, 115, 101, 115], [110, 101, 101, 100, 115], [103, 105, 118, 101, 115], [97, 102, 116, 101, 114], [99, 111, 115, 116, 108, 121], [111, 114], [97, 110, 100], [111, 102], [108, 101, 110, 103, 116, 104], [114, 105, 115, 107], [100, 111, 110, 101], [102, 97, 105, 108, 115], [114, 101, 119, 97, 114, 100], [59], [44], [40], [41], [43], [45], [42], [47], [108, 101, 110, 103, 116, 104], [114, 105, 115, 107], [100, 111, 110, 101], [102, 97, 105, 108, 115], [114, 101, 119, 97, 114, 100], [113, 117, 101, 115, 116], [111, 102], [97, 110, 100], [111, 114], [117, 115, 101, 115], [110, 101, 101, 100, 115], [103, 105, 118, 101, 115], [97, 102, 116, 101, 114], [99, 111, 115, 116, 108, 121], [115, 116, 101, 112], [103, 111, 97, 108], [115, 101, 101, 100], [119, 111, 114, 116, 104], [108, 101, 100, 103, 101, 114], [115, 116, 111, 99, 107]]
def swC : List Int64 := [-6148914691236517206, -3689348814741910324, -1085102592571150096, -71777214294589696, -281470681808896, -4294967296]
/-- what stands at the place i -/
def ct (G : Gt) (σ : St) (i : Nat) : va_E := match kd i with
  | 0 => .inr (0, [.ref (gz G + (i + 1))])
  | 1 => .inr (1, [.ref (gz G + (i + 1)), .int (gI σ i 1), .int (gI σ i 2)])
  | 2 => .inr (2, [.ref (gz G + (i + 1)), .ref (gz G + (i + 2)), .int (gI σ i 2), .int (gI σ i 3), .ref (gz G + (i + 3)), .int (gI σ i 5), .ref (gz G + (i + 4)), .int (gI σ i 7)])
  | 3 => .inr (3, [.int (gI σ i 0), .int (gI σ i 1), .int (gI σ i 2), .int (gI σ i 3), .int (gI σ i 4), .long (gL σ i 5), .ref (gz G + (i + 1)), .ref (gz G + (i + 2)), .ref (gz G + (i + 3)), .ref (gz G + (i + 4)), .ref (gz G + (i + 5)), .ref (gz G + (i + 6)), .ref (gz G + (i + 7)), .ref (gz G + (i + 8))])
  | 4 => .inr (4, [.ref (gz G + (i + 1)), .ref (gz G + (i + 5)), .ref (gz G + (i + 7)), .int (gI σ i 3), .int (gI σ i 4), .int (gI σ i 5)])
  | 5 => .inr (5, [.ref (gz G + (i + 1)), .ref (gz G + (i + 2)), .ref (gz G + (i + 3)), .int (gI σ i 3), .int (gI σ i 4), .int (gI σ i 5), .int (gI σ i 6)])
  | 6 => .inr (6, [.ref (gz G + (i + 1)), .ref (gz G + (i + 2)), .ref (gz G + (i + 3)), .long (gL σ i 3)])
  | 7 => .inr (7, [.ref (gz G + (i + 1)), .int (gI σ i 1), .ref (gz G + (i + 2))])
  | 8 => .inr (8, [])
  | 9 => .inr (9, [.ref (gz G + (i + 1)), .int (gI σ i 1), .int (gI σ i 2), .ref (gz G + (i + 2)), .ref (gz G + (i + 61)), .ref (gz G + (i + 120)), .ref (gz G + (i + 594)), .ref (gz G + (i + 602)), .ref (gz G + (i + 606))])
  | 10 => .inr (10, [.int (gI σ i 0), .ref (gz G + (i + 1)), .ref (gz G + (i + 2)), .int (gI σ i 3), .int (gI σ i 4), .ref (gz G + (i + 3)), .ref (gz G + (i + 4)), .ref (gz G + (i + 5)), .ref (gz G + (i + 6)), .int (gI σ i 9), .ref (gz G + (i + 7)), .int (gI σ i 11), .ref (gz G + (i + 8)), .ref (gz G + (i + 9)), .int (gI σ i 14), .int (gI σ i 15), .int (gI σ i 16), .int (gI σ i 17), .int (gI σ i 18), .int (gI σ i 19), .int (gI σ i 20), .int (gI σ i 21), .int (gI σ i 22), .int (gI σ i 23), .int (gI σ i 24), .int (gI σ i 25), .ref (gz G + (i + 10))])
  | 11 => .inl (gty G 0, alen i, .inl (gI σ i))
  | 12 => .inl (gty G 1, alen i, .inr (.inl (gL σ i)))
  | 13 => .inl (gty G 2, alen i, .inl (gI σ i))
  | 14 => .inl (gty G 3, alen i, .inr (.inr (.inr (.inl (gD σ i)))))
  | 15 => .inl (gty G 4, alen i, .inr (.inr (.inr (.inr (fun k => (gK σ i k).map (gad G))))))
  | 16 => .inl (gty G 5, alen i, .inr (.inr (.inr (.inr (fun k => some (gz G + (i + 2 + 9 * k)))))))
  | 17 => .inl (gty G 6, alen i, .inr (.inr (.inr (.inr (fun k => some (gz G + (i + 1 + 59 * k)))))))
  | _ => .inl (gty G 0, 0, .inl (fun _ => 0))
theorem ct_0 (G : Gt) (σ : St) {i : Nat} (h : kd i = 0) : ct G σ i = .inr (0, [.ref (gz G + (i + 1))]) := by unfold ct; rw [h]; rfl
theorem ct_1 (G : Gt) (σ : St) {i : Nat} (h : kd i = 1) : ct G σ i = .inr (1, [.ref (gz G + (i + 1)), .int (gI σ i 1), .int (gI σ i 2)]) := by unfold ct; rw [h]; rfl
theorem ct_2 (G : Gt) (σ : St) {i : Nat} (h : kd i = 2) : ct G σ i = .inr (2, [.ref (gz G + (i + 1)), .ref (gz G + (i + 2)), .int (gI σ i 2), .int (gI σ i 3), .ref (gz G + (i + 3)), .int (gI σ i 5), .ref (gz G + (i + 4)), .int (gI σ i 7)]) := by unfold ct; rw [h]; rfl
theorem ct_3 (G : Gt) (σ : St) {i : Nat} (h : kd i = 3) : ct G σ i = .inr (3, [.int (gI σ i 0), .int (gI σ i 1), .int (gI σ i 2), .int (gI σ i 3), .int (gI σ i 4), .long (gL σ i 5), .ref (gz G + (i + 1)), .ref (gz G + (i + 2)), .ref (gz G + (i + 3)), .ref (gz G + (i + 4)), .ref (gz G + (i + 5)), .ref (gz G + (i + 6)), .ref (gz G + (i + 7)), .ref (gz G + (i + 8))]) := by unfold ct; rw [h]; rfl
theorem ct_4 (G : Gt) (σ : St) {i : Nat} (h : kd i = 4) : ct G σ i = .inr (4, [.ref (gz G + (i + 1)), .ref (gz G + (i + 5)), .ref (gz G + (i + 7)), .int (gI σ i 3), .int (gI σ i 4), .int (gI σ i 5)]) := by unfold ct; rw [h]; rfl
theorem ct_5 (G : Gt) (σ : St) {i : Nat} (h : kd i = 5) : ct G σ i = .inr (5, [.ref (gz G + (i + 1)), .ref (gz G + (i + 2)), .ref (gz G + (i + 3)), .int (gI σ i 3), .int (gI σ i 4), .int (gI σ i 5), .int (gI σ i 6)]) := by unfold ct; rw [h]; rfl
theorem ct_6 (G : Gt) (σ : St) {i : Nat} (h : kd i = 6) : ct G σ i = .inr (6, [.ref (gz G + (i + 1)), .ref (gz G + (i + 2)), .ref (gz G + (i + 3)), .long (gL σ i 3)]) := by unfold ct; rw [h]; rfl
theorem ct_7 (G : Gt) (σ : St) {i : Nat} (h : kd i = 7) : ct G σ i = .inr (7, [.ref (gz G + (i + 1)), .int (gI σ i 1), .ref (gz G + (i + 2))]) := by unfold ct; rw [h]; rfl
theorem ct_8 (G : Gt) (σ : St) {i : Nat} (h : kd i = 8) : ct G σ i = .inr (8, []) := by unfold ct; rw [h]; rfl
theorem ct_9 (G : Gt) (σ : St) {i : Nat} (h : kd i = 9) : ct G σ i = .inr (9, [.ref (gz G + (i + 1)), .int (gI σ i 1), .int (gI σ i 2), .ref (gz G + (i + 2)), .ref (gz G + (i + 61)), .ref (gz G + (i + 120)), .ref (gz G + (i + 594)), .ref (gz G + (i + 602)), .ref (gz G + (i + 606))]) := by unfold ct; rw [h]; rfl
theorem ct_10 (G : Gt) (σ : St) {i : Nat} (h : kd i = 10) : ct G σ i = .inr (10, [.int (gI σ i 0), .ref (gz G + (i + 1)), .ref (gz G + (i + 2)), .int (gI σ i 3), .int (gI σ i 4), .ref (gz G + (i + 3)), .ref (gz G + (i + 4)), .ref (gz G + (i + 5)), .ref (gz G + (i + 6)), .int (gI σ i 9), .ref (gz G + (i + 7)), .int (gI σ i 11), .ref (gz G + (i + 8)), .ref (gz G + (i + 9)), .int (gI σ i 14), .int (gI σ i 15), .int (gI σ i 16), .int (gI σ i 17), .int (gI σ i 18), .int (gI σ i 19), .int (gI σ i 20), .int (gI σ i 21), .int (gI σ i 22), .int (gI σ i 23), .int (gI σ i 24), .int (gI σ i 25), .ref (gz G + (i + 10))]) := by unfold ct; rw [h]; rfl
theorem ct_11 (G : Gt) (σ : St) {i : Nat} (h : kd i = 11) : ct G σ i = .inl (gty G 0, alen i, .inl (gI σ i)) := by unfold ct; rw [h]; rfl
theorem ct_12 (G : Gt) (σ : St) {i : Nat} (h : kd i = 12) : ct G σ i = .inl (gty G 1, alen i, .inr (.inl (gL σ i))) := by unfold ct; rw [h]; rfl
theorem ct_13 (G : Gt) (σ : St) {i : Nat} (h : kd i = 13) : ct G σ i = .inl (gty G 2, alen i, .inl (gI σ i)) := by unfold ct; rw [h]; rfl
theorem ct_14 (G : Gt) (σ : St) {i : Nat} (h : kd i = 14) : ct G σ i = .inl (gty G 3, alen i, .inr (.inr (.inr (.inl (gD σ i))))) := by unfold ct; rw [h]; rfl
theorem ct_15 (G : Gt) (σ : St) {i : Nat} (h : kd i = 15) : ct G σ i = .inl (gty G 4, alen i, .inr (.inr (.inr (.inr (fun k => (gK σ i k).map (gad G)))))) := by unfold ct; rw [h]; rfl
theorem ct_16 (G : Gt) (σ : St) {i : Nat} (h : kd i = 16) : ct G σ i = .inl (gty G 5, alen i, .inr (.inr (.inr (.inr (fun k => some (gz G + (i + 2 + 9 * k))))))) := by unfold ct; rw [h]; rfl
theorem ct_17 (G : Gt) (σ : St) {i : Nat} (h : kd i = 17) : ct G σ i = .inl (gty G 6, alen i, .inr (.inr (.inr (.inr (fun k => some (gz G + (i + 1 + 59 * k))))))) := by unfold ct; rw [h]; rfl
theorem ct_congr (G : Gt) {σ σ' : St} {j : Nat} (h1 : gI σ' j = gI σ j) (h2 : gL σ' j = gL σ j) (h3 : gK σ' j = gK σ j) (h4 : gD σ' j = gD σ j) : ct G σ' j = ct G σ j := by
  unfold ct
  rw [h1, h2, h3, h4]
def wl (G : Gt) (σ : St) : va_W := (List.range NC).map (fun i => (gz G + i, ct G σ i))
theorem wl_at (G : Gt) (σ : St) {i : Nat} (h : kd i ≠ 99) : (wl G σ)[i]? = some (gz G + i, ct G σ i) := by
  have hi : i < NC := kd_in h
  simp [wl, hi]
theorem wl_ct (G : Gt) {σ : St} {i : Nat} {e : va_E} (h : kd i ≠ 99) (he : ct G σ i = e) : (wl G σ)[i]? = some (gz G + i, e) := by rw [← he]; exact wl_at G σ h
abbrev gA (G : Gt) : Nat → Prop := fun q => gz G ≤ q
theorem wl_D (G : Gt) (σ : St) : va_D (gA G) (wl G σ) := by
  have key : ∀ (k : Nat) (q : Nat × va_E), (wl G σ)[k]? = some q → q.1 = gz G + k := by
    intro k q hk
    unfold wl at hk
    rw [List.getElem?_map] at hk
    obtain ⟨a, ha, hq⟩ := Option.map_eq_some_iff.mp hk
    obtain ⟨h1, h2⟩ := List.getElem?_eq_some_iff.mp ha
    rw [List.getElem_range] at h2
    rw [← hq, h2]
  refine ⟨fun i j p q h1 h2 e => ?_, fun k q h => ?_⟩
  · have := key i p h1
    have := key j q h2
    omega
  · have := key k q h
    show gz G ≤ q.1
    omega
theorem wl_set (G : Gt) {σ σ' : St} {i : Nat} {e : va_E} (he : ct G σ' i = e) (ho : ∀ j, j ≠ i → ct G σ' j = ct G σ j) : (wl G σ).set i (gz G + i, e) = wl G σ' := by
  refine List.ext_getElem? fun k => ?_
  by_cases hk : k < NC
  · by_cases hki : k = i
    · subst hki
      simp [wl, hk, he]
    · rw [List.getElem?_set_ne (Ne.symm hki)]
      simp [wl, hk, ho k hki]
  · rw [List.getElem?_eq_none (by simp [wl]; omega), List.getElem?_eq_none (by simp [wl]; omega)]
theorem gI_row (σ : St) (i : Nat) (f : Nat → Int32) : gI (rowI σ i f) i = f := by simp [gI, rowI, va_up]
theorem gI_rowNe (σ : St) {i j : Nat} (f : Nat → Int32) (h : j ≠ i) : gI (rowI σ i f) j = gI σ j := by simp [gI, rowI, va_up, h]
theorem ct_row (G : Gt) {σ : St} {i j : Nat} {f : Nat → Int32} (h : j ≠ i) : ct G (rowI σ i f) j = ct G σ j := ct_congr G (gI_rowNe σ f h) rfl rfl rfl
theorem ct_sL (G : Gt) {σ : St} {i j k : Nat} {v : Int64} (h : j ≠ i) : ct G (sL σ i k v) j = ct G σ j := ct_congr G rfl (by simp [gL, sL, va_up, h]) rfl rfl
theorem ct_sK (G : Gt) {σ : St} {i j k : Nat} {v : Option Nat} (h : j ≠ i) : ct G (sK σ i k v) j = ct G σ j := ct_congr G rfl rfl (by simp [gK, sK, va_up, h]) rfl
theorem ct_sD (G : Gt) {σ : St} {i j k : Nat} {v : UInt64} (h : j ≠ i) : ct G (sD σ i k v) j = ct G σ j := ct_congr G rfl rfl rfl (by simp [gD, sD, va_up, h])
theorem gI_sI (σ : St) (i k a b : Nat) (v : Int32) : gI (sI σ i k v) a b = if a = i then (if b = k then v else gI σ a b) else gI σ a b := by
  unfold sI
  by_cases h : a = i
  · subst h; rw [gI_row, if_pos rfl]; rfl
  · rw [gI_rowNe σ _ h, if_neg h]
theorem gL_sL (σ : St) (i k a b : Nat) (v : Int64) : gL (sL σ i k v) a b = if a = i then (if b = k then v else gL σ a b) else gL σ a b := by
  by_cases h : a = i <;> simp [gL, sL, va_up, vp_updL, h]
theorem gK_sK (σ : St) (i k a b : Nat) (v : Option Nat) : gK (sK σ i k v) a b = if a = i then (if b = k then v else gK σ a b) else gK σ a b := by
  by_cases h : a = i <;> simp [gK, sK, va_up, h]
theorem gL_sI (σ : St) (i k : Nat) (v : Int32) : gL (sI σ i k v) = gL σ := rfl
theorem gK_sI (σ : St) (i k : Nat) (v : Int32) : gK (sI σ i k v) = gK σ := rfl
theorem gD_sI (σ : St) (i k : Nat) (v : Int32) : gD (sI σ i k v) = gD σ := rfl
theorem gI_sL (σ : St) (i k : Nat) (v : Int64) : gI (sL σ i k v) = gI σ := rfl
theorem gK_sL (σ : St) (i k : Nat) (v : Int64) : gK (sL σ i k v) = gK σ := rfl
theorem gI_sK (σ : St) (i k : Nat) (v : Option Nat) : gI (sK σ i k v) = gI σ := rfl
theorem gL_sK (σ : St) (i k : Nat) (v : Option Nat) : gL (sK σ i k v) = gL σ := rfl
/-! the words: one list for all methods -/
def isCst : Cond → Bool
  | .castable _ _ => true
  | .declares _ => true
  | _ => false
def tg (w : Cond) : Bool := (goodWord w || (w.onTables && w.keepsH)) || isCst w
def TB : List Cond := lw_tbl.filter tg
theorem mem_TB {w : Cond} (i : Nat) (h : (decide (lw_tbl[i]? = some w) && tg w) = true) : w ∈ TB := by
  rw [Bool.and_eq_true, decide_eq_true_eq] at h
  exact List.mem_filter.mpr ⟨List.mem_of_getElem? h.1, h.2⟩
theorem tg_warm {w : Cond} (hg : tg w = true) {s U : State} {a a' : Array Value} (hW : s.WarmedH U.vm) (h : w.before a s = true) : w.before a' U = true := by
  unfold tg at hg
  rw [Bool.or_eq_true, Bool.or_eq_true] at hg
  rcases hg with (hg | hg) | hg
  · exact word_at hW (good_of_word hg) h
  rotate_left
  · cases w <;> first | (simp only [isCst] at hg; exact absurd hg (by decide)) | skip
    · rename_i x
      have h1 : (Cond.declares x).before a (s.setVm U.vm) = true := by rw [Cond.declares_setVm hW.alike]; exact h
      have e := Cond.onTables_vm (A := a) (A' := a') (U := s) (U' := U) U.vm (Cond.declares x) rfl
      rw [e] at h1
      rwa [State.setVm_self] at h1
    · rename_i C T
      have h1 : va_Nw (.castable C T) s := va_Nw.of rfl h
      exact (h1.warmC hW).use rfl
  · rw [Bool.and_eq_true] at hg
    have h1 := Cond.onTables_warmH (T := U) (args' := a') hW hg.1 hg.2 h
    rwa [State.setVm_self] at h1
theorem TB_warm {s U : State} {a a' : Array Value} (hW : s.WarmedH U.vm) (h : ∀ w ∈ TB, w.before a s = true) : ∀ w ∈ TB, w.before a' U = true := fun w hw => tg_warm (List.mem_filter.mp hw).2 hW (h w hw)
/-! the statics -/
/-- the strings, each by itself (two places may hold one string) -/
def vkS (len : List Nat) (byt : List (List Int32)) (adK adV : Nat → Nat) (A : Nat → Prop) (U : State) (H : Heap) : Prop := ∀ k, k < 49 → vk_S 1 [len.getD k 0] [byt.getD k []] (fun _ => adK k) (fun _ => adV k) A U H
def EnvT (G : Gt) (U : State) (H : Heap) : Prop :=
  (∀ k, k < 32 → va_Z "QuestLedger$Token" (tkN.getD k "") "LQuestLedger$Token;" (.ref (gad G k)) (gA G) U H ∧ va_O "QuestLedger$Token" (gad G k) (gA G) U H ∧ va_OF "QuestLedger$Token" "code" "I" (.int (tkC.getD k 0)) (gad G k) (gA G) U H ∧ va_OF "QuestLedger$Token" "text" "Ljava/lang/String;" (.ref (gsK G (tkS.getD k 0))) (gad G k) (gA G) U H) ∧
  (∀ i j, gad G i = gad G j → i = j) ∧
  (va_Z "QuestLedger" "TOKENS" "[LQuestLedger$Token;" (.ref (gsA G 0)) (gA G) U H ∧ va_T (.object "QuestLedger$Token") (gsA G 0) 32 (fun k => .ref (gad G k)) (gA G) U H) ∧
  (va_Z "QuestLedger" "SETS_WITH" "[J" (.ref (gsA G 1)) (gA G) U H ∧ va_T .long (gsA G 1) 6 (fun k => .long (swC.getD k 0)) (gA G) U H) ∧
  vkS stL stB (gsK G) (gsV G) (gA G) U H ∧
  (∀ k, k < 49 → vk_R (stO.getD k "") (stK.getD k 0) (stT.getD k "") (gsK G k) U) ∧
  va_Z "java/lang/String" "COMPACT_STRINGS" "Z" (.int 1) (gA G) U H ∧
  va_Zq "jdk/internal/util/Preconditions" "SIOOBE_FORMATTER" "Ljava/util/function/BiFunction;" (gA G) U H ∧
  vx_Zq Bundle.tN "UNASSIGNED_STACK" Bundle.steD (gA G) U H ∧
  vx_Zq Bundle.tN "SUPPRESSED_SENTINEL" Bundle.listD (gA G) U H ∧
  (∀ a b, 0 < a → a < 5 → 0 < b → b < 5 → a ≠ b → va_Nc (exN a) (exN b) U)
theorem EnvT.go {G : Gt} {u U : State} {H H1 : Heap} (hW : u.WarmedH U.vm) (hq : ∀ a : Nat, a < H.size → ¬ gA G a → H1[a]? = H[a]?) (h : EnvT G u H) : EnvT G U H1 := by
  obtain ⟨h1, h2, h3, h4, h5, h6, h7, h8, h9, h10, h11⟩ := h
  have hm := hW.alike
  exact ⟨fun k hk => ⟨((h1 k hk).1.moved hm).kept hq, ((h1 k hk).2.1.moved hm).kept hq, ((h1 k hk).2.2.1.moved hm).kept hq, ((h1 k hk).2.2.2.moved hm).kept hq⟩, h2, ⟨(h3.1.moved hm).kept hq, (h3.2.moved hm).kept hq⟩, ⟨(h4.1.moved hm).kept hq, (h4.2.moved hm).kept hq⟩, fun k hk => ((h5 k hk).moved hm).kept hq, fun k hk => (h6 k hk).warm hW, (h7.moved hm).kept hq, (h8.moved hm).kept hq, (h9.moved hm).kept hq, (h10.moved hm).kept hq, fun a b p1 p2 p3 p4 p5 => (h11 a b p1 p2 p3 p4 p5).moved hm⟩
def EnvS (G : Gt) (U : State) : Prop := va_K (gDD G) vwCl (tysG G) U ∧ gz G ≤ U.heap.size ∧ EnvT G U U.heap
def GW (G : Gt) (σ : St) (s : State) (H : Heap) (locs : List Loc) : Prop := va_P (gDD G) vwCl (wl G σ) H ∧ va_S (gA G) s.heap H locs
/-- a method's start -/
def GP (G : Gt) (σ : St) (U : State) : Prop := (∀ w ∈ TB, w.before #[] U = true) ∧ EnvS G U ∧ va_P (gDD G) vwCl (wl G σ) U.heap
/-- a method's end: the answer, and the state -/
def Qx (G : Gt) (ov : Option Value) (σ' : St) : Array Value → State → Outcome → State → Prop := fun _ st oc t => oc = .returned ov ∧ va_P (gDD G) vwCl (wl G σ') t.heap ∧ va_F (gA G) st t
def rmH (h : Nat) : Room := { frames := h, cells := 0, slots := 0, locals := 40 * h }
def Ct (G : Gt) (l : Launch) (y : MethodName) (cc : ByteArray) (maxL : Nat) (ret : Option FieldType) (h : Nat) (av : List Value) (σ : St) (ov : Option Value) (σ' : St) : Prop :=
  Met l y [.code y cc maxL ret] (rmH h) (va_Pc av (GP G σ)) (Qx G ov σ') 0 0 (gA G)
/-- what holds all along a method: its own code, the words, the statics, its room -/
def Cx (G : Gt) (p : Program) (R : Room) (s : State) (m : MethodId) (args : Array Value) (c : Code) (cells slots : Nat) (cc : ByteArray) (nL : Nat) (own : String) (h : Nat) : Prop :=
  CallFix p m c cc nL s args TB own ∧ EnvS G s ∧ h ≤ R.frames ∧ 40 * h ≤ R.locals ∧ cells ≤ R.cells ∧ slots ≤ R.slots
section CX
variable {G : Gt} {p : Program} {l : Launch} {e : Env} {R : Room} {s : State} {m : MethodId} {args : Array Value} {below : List Frame} {meth : Method} {c : Code} {H : Heap} {locs : List Loc} {cells slots : Nat} {Q : State → Prop}
variable {cc bytes : ByteArray} {nL h h2 : Nat} {own C : String} {pc : Nat} {ls : Array Slot} {rest : List Value} {σ σ' : St}
theorem GW.P (hW : GW G σ s H locs) : va_P (gDD G) vwCl (wl G σ) H := hW.1
theorem Cx.env (X : Cx G p R s m args c cells slots cc nL own h) (hW : GW G σ s H locs) {U : State} (hU : U.heap = H) (hw : s.WarmedH U.vm) : GP G σ U := by
  obtain ⟨⟨-, -, -, -, hts⟩, ⟨hK, hz, hT⟩, -⟩ := X
  obtain ⟨hP, hS⟩ := hW
  refine ⟨TB_warm hw hts, ⟨va_K.moved hw.alike hK, by rw [hU]; exact Nat.le_trans hz hS.1, ?_⟩, by rw [hU]; exact hP⟩
  refine hT.go hw ?_
  rw [hU]
  exact hS.2.1
theorem GP_blind (av : List Value) (σ : St) : FrameBlind (va_Pc av (GP G σ)) := by
  intro a U g mk q
  obtain ⟨q0, q1, ⟨q2, q3, q4⟩, q5⟩ := q
  have hm : U.vm.Alike (U.calling g mk a).vm := Vm.Alike.refl U.vm
  have hW : U.WarmedH (U.calling g mk a).vm := State.WarmedH.refl U
  exact ⟨q0, TB_warm hW q1, ⟨va_K.moved hm q2, q3, q4.go hW (fun _ _ _ => rfl)⟩, q5⟩
/-- behind a call -/
theorem g_back {ov : Option Value} {st0 : List Value} {a : Array Value} (X : Cx G p R s m args c cells slots cc nL own h) (hW : GW G σ s H locs) (hr : va_Run p l e R s m args below meth c H locs cells slots 0 0 (F0 m pc ls st0) rest (Qx G ov σ' a) (gA G))
    (kk : ∀ (H1 : Heap) (locs1 : List Loc), GW G σ' s H1 locs1 → W p l e R s m args below meth c H1 locs1 cells slots Q (F0 m (pc + 3) ls (ov.toList ++ rest))) : W p l e R s m args below meth c H locs cells slots Q (F0 m pc ls st0) := by
  intro T hT X1
  obtain ⟨v, st₀, t, T', L, h0, X', hL, e1, e2, ⟨hv, hP, hz, hk⟩, st⟩ := hr T hT X1
  cases hv
  rw [h0] at hz hk
  obtain ⟨hP0, hS⟩ := hW
  obtain ⟨t2, a1, b1⟩ := kk T'.heap (locs ++ L) ⟨by rw [e1]; exact hP, Nat.le_trans hS.1 (by rw [e1]; exact hz), fun q h1 h2 => by rw [e1, hk q (Nat.lt_of_lt_of_le h1 hS.1) h2]; exact hS.2.1 q h1 h2, fun q hq => by
      rcases List.mem_append.mp hq with h | h
      · exact hS.2.2 q h
      · exact hL q h⟩ T' rfl X'
  exact ⟨t2, st t2 a1, b1⟩
end CX
theorem kf_X0_atLeast {i : Nat} (h : kd i = 0) : kd (i + 1) = 12 := kd_all (P := fun i => kd i = 0 → kd (i + 1) = 12) (by decide +kernel) (by rw [h]; decide) h
theorem af_X0_atLeast {i : Nat} (h : kd i = 0) : alen (i + 1) = 28 := kd_all (P := fun i => kd i = 0 → alen (i + 1) = 28) (by decide +kernel) (by rw [h]; decide) h
theorem kf_X1_past {i : Nat} (h : kd i = 1) : kd (i + 1) = 17 := kd_all (P := fun i => kd i = 1 → kd (i + 1) = 17) (by decide +kernel) (by rw [h]; decide) h
theorem af_X1_past {i : Nat} (h : kd i = 1) : alen (i + 1) = 8 := kd_all (P := fun i => kd i = 1 → alen (i + 1) = 8) (by decide +kernel) (by rw [h]; decide) h
theorem kf_X2_stock {i : Nat} (h : kd i = 2) : kd (i + 1) = 11 := kd_all (P := fun i => kd i = 2 → kd (i + 1) = 11) (by decide +kernel) (by rw [h]; decide) h
theorem af_X2_stock {i : Nat} (h : kd i = 2) : alen (i + 1) = 8 := kd_all (P := fun i => kd i = 2 → alen (i + 1) = 8) (by decide +kernel) (by rw [h]; decide) h
theorem kf_X2_queue {i : Nat} (h : kd i = 2) : kd (i + 2) = 11 := kd_all (P := fun i => kd i = 2 → kd (i + 2) = 11) (by decide +kernel) (by rw [h]; decide) h
theorem af_X2_queue {i : Nat} (h : kd i = 2) : alen (i + 2) = 40 := kd_all (P := fun i => kd i = 2 → alen (i + 2) = 40) (by decide +kernel) (by rw [h]; decide) h
theorem kf_X2_quests {i : Nat} (h : kd i = 2) : kd (i + 3) = 16 := kd_all (P := fun i => kd i = 2 → kd (i + 3) = 16) (by decide +kernel) (by rw [h]; decide) h
theorem af_X2_quests {i : Nat} (h : kd i = 2) : alen (i + 3) = 6 := kd_all (P := fun i => kd i = 2 → alen (i + 3) = 6) (by decide +kernel) (by rw [h]; decide) h
theorem kf_X2_worthCode {i : Nat} (h : kd i = 2) : kd (i + 4) = 11 := kd_all (P := fun i => kd i = 2 → kd (i + 4) = 11) (by decide +kernel) (by rw [h]; decide) h
theorem af_X2_worthCode {i : Nat} (h : kd i = 2) : alen (i + 4) = 800 := kd_all (P := fun i => kd i = 2 → alen (i + 4) = 800) (by decide +kernel) (by rw [h]; decide) h
theorem kf_X3_risk {i : Nat} (h : kd i = 3) : kd (i + 1) = 11 := kd_all (P := fun i => kd i = 3 → kd (i + 1) = 11) (by decide +kernel) (by rw [h]; decide) h
theorem af_X3_risk {i : Nat} (h : kd i = 3) : alen (i + 1) = 6 := kd_all (P := fun i => kd i = 3 → alen (i + 1) = 6) (by decide +kernel) (by rw [h]; decide) h
theorem kf_X3_limit {i : Nat} (h : kd i = 3) : kd (i + 2) = 11 := kd_all (P := fun i => kd i = 3 → kd (i + 2) = 11) (by decide +kernel) (by rw [h]; decide) h
theorem af_X3_limit {i : Nat} (h : kd i = 3) : alen (i + 2) = 6 := kd_all (P := fun i => kd i = 3 → alen (i + 2) = 6) (by decide +kernel) (by rw [h]; decide) h
theorem kf_X3_fails {i : Nat} (h : kd i = 3) : kd (i + 3) = 11 := kd_all (P := fun i => kd i = 3 → kd (i + 3) = 11) (by decide +kernel) (by rw [h]; decide) h
theorem af_X3_fails {i : Nat} (h : kd i = 3) : alen (i + 3) = 6 := kd_all (P := fun i => kd i = 3 → alen (i + 3) = 6) (by decide +kernel) (by rw [h]; decide) h
theorem kf_X3_ahead {i : Nat} (h : kd i = 3) : kd (i + 4) = 11 := kd_all (P := fun i => kd i = 3 → kd (i + 4) = 11) (by decide +kernel) (by rw [h]; decide) h
theorem af_X3_ahead {i : Nat} (h : kd i = 3) : alen (i + 4) = 6 := kd_all (P := fun i => kd i = 3 → alen (i + 4) = 6) (by decide +kernel) (by rw [h]; decide) h
theorem kf_X3_costly {i : Nat} (h : kd i = 3) : kd (i + 5) = 11 := kd_all (P := fun i => kd i = 3 → kd (i + 5) = 11) (by decide +kernel) (by rw [h]; decide) h
theorem af_X3_costly {i : Nat} (h : kd i = 3) : alen (i + 5) = 6 := kd_all (P := fun i => kd i = 3 → alen (i + 5) = 6) (by decide +kernel) (by rw [h]; decide) h
theorem kf_X3_uses {i : Nat} (h : kd i = 3) : kd (i + 6) = 11 := kd_all (P := fun i => kd i = 3 → kd (i + 6) = 11) (by decide +kernel) (by rw [h]; decide) h
theorem af_X3_uses {i : Nat} (h : kd i = 3) : alen (i + 6) = 48 := kd_all (P := fun i => kd i = 3 → alen (i + 6) = 48) (by decide +kernel) (by rw [h]; decide) h
theorem kf_X3_needs {i : Nat} (h : kd i = 3) : kd (i + 7) = 11 := kd_all (P := fun i => kd i = 3 → kd (i + 7) = 11) (by decide +kernel) (by rw [h]; decide) h
theorem af_X3_needs {i : Nat} (h : kd i = 3) : alen (i + 7) = 48 := kd_all (P := fun i => kd i = 3 → alen (i + 7) = 48) (by decide +kernel) (by rw [h]; decide) h
theorem kf_X3_gives {i : Nat} (h : kd i = 3) : kd (i + 8) = 11 := kd_all (P := fun i => kd i = 3 → kd (i + 8) = 11) (by decide +kernel) (by rw [h]; decide) h
theorem af_X3_gives {i : Nat} (h : kd i = 3) : alen (i + 8) = 48 := kd_all (P := fun i => kd i = 3 → alen (i + 8) = 48) (by decide +kernel) (by rw [h]; decide) h
theorem kf_X4_tokens {i : Nat} (h : kd i = 4) : kd (i + 1) = 5 := kd_all (P := fun i => kd i = 4 → kd (i + 1) = 5) (by decide +kernel) (by rw [h]; decide) h
theorem kf_X4_goals {i : Nat} (h : kd i = 4) : kd (i + 5) = 0 := kd_all (P := fun i => kd i = 4 → kd (i + 5) = 0) (by decide +kernel) (by rw [h]; decide) h
theorem kf_X4_worths {i : Nat} (h : kd i = 4) : kd (i + 7) = 8 := kd_all (P := fun i => kd i = 4 → kd (i + 7) = 8) (by decide +kernel) (by rw [h]; decide) h
theorem kf_X6_kinds {i : Nat} (h : kd i = 5) : kd (i + 1) = 15 := kd_all (P := fun i => kd i = 5 → kd (i + 1) = 15) (by decide +kernel) (by rw [h]; decide) h
theorem af_X6_kinds {i : Nat} (h : kd i = 5) : alen (i + 1) = 801 := kd_all (P := fun i => kd i = 5 → alen (i + 1) = 801) (by decide +kernel) (by rw [h]; decide) h
theorem kf_X6_starts {i : Nat} (h : kd i = 5) : kd (i + 2) = 11 := kd_all (P := fun i => kd i = 5 → kd (i + 2) = 11) (by decide +kernel) (by rw [h]; decide) h
theorem af_X6_starts {i : Nat} (h : kd i = 5) : alen (i + 2) = 801 := kd_all (P := fun i => kd i = 5 → alen (i + 2) = 801) (by decide +kernel) (by rw [h]; decide) h
theorem kf_X6_numbers {i : Nat} (h : kd i = 5) : kd (i + 3) = 11 := kd_all (P := fun i => kd i = 5 → kd (i + 3) = 11) (by decide +kernel) (by rw [h]; decide) h
theorem af_X6_numbers {i : Nat} (h : kd i = 5) : alen (i + 3) = 801 := kd_all (P := fun i => kd i = 5 → alen (i + 3) = 801) (by decide +kernel) (by rw [h]; decide) h
theorem kf_X7_stocks {i : Nat} (h : kd i = 6) : kd (i + 1) = 11 := kd_all (P := fun i => kd i = 6 → kd (i + 1) = 11) (by decide +kernel) (by rw [h]; decide) h
theorem af_X7_stocks {i : Nat} (h : kd i = 6) : alen (i + 1) = 512 := kd_all (P := fun i => kd i = 6 → alen (i + 1) = 512) (by decide +kernel) (by rw [h]; decide) h
theorem kf_X7_stepsToTry {i : Nat} (h : kd i = 6) : kd (i + 2) = 11 := kd_all (P := fun i => kd i = 6 → kd (i + 2) = 11) (by decide +kernel) (by rw [h]; decide) h
theorem af_X7_stepsToTry {i : Nat} (h : kd i = 6) : alen (i + 2) = 64 := kd_all (P := fun i => kd i = 6 → alen (i + 2) = 64) (by decide +kernel) (by rw [h]; decide) h
theorem kf_X7_toGo {i : Nat} (h : kd i = 6) : kd (i + 3) = 11 := kd_all (P := fun i => kd i = 6 → kd (i + 3) = 11) (by decide +kernel) (by rw [h]; decide) h
theorem af_X7_toGo {i : Nat} (h : kd i = 6) : alen (i + 3) = 64 := kd_all (P := fun i => kd i = 6 → alen (i + 3) = 64) (by decide +kernel) (by rw [h]; decide) h
theorem kf_X8_stack {i : Nat} (h : kd i = 7) : kd (i + 1) = 11 := kd_all (P := fun i => kd i = 7 → kd (i + 1) = 11) (by decide +kernel) (by rw [h]; decide) h
theorem af_X8_stack {i : Nat} (h : kd i = 7) : alen (i + 1) = 11 := kd_all (P := fun i => kd i = 7 → alen (i + 1) = 11) (by decide +kernel) (by rw [h]; decide) h
theorem kf_X8_seen {i : Nat} (h : kd i = 7) : kd (i + 2) = 11 := kd_all (P := fun i => kd i = 7 → kd (i + 2) = 11) (by decide +kernel) (by rw [h]; decide) h
theorem af_X8_seen {i : Nat} (h : kd i = 7) : alen (i + 2) = 6 := kd_all (P := fun i => kd i = 7 → alen (i + 2) = 6) (by decide +kernel) (by rw [h]; decide) h
theorem kf_X10_buffer {i : Nat} (h : kd i = 9) : kd (i + 1) = 11 := kd_all (P := fun i => kd i = 9 → kd (i + 1) = 11) (by decide +kernel) (by rw [h]; decide) h
theorem af_X10_buffer {i : Nat} (h : kd i = 9) : alen (i + 1) = 800 := kd_all (P := fun i => kd i = 9 → alen (i + 1) = 800) (by decide +kernel) (by rw [h]; decide) h
theorem kf_X10_now {i : Nat} (h : kd i = 9) : kd (i + 2) = 2 := kd_all (P := fun i => kd i = 9 → kd (i + 2) = 2) (by decide +kernel) (by rw [h]; decide) h
theorem kf_X10_draft {i : Nat} (h : kd i = 9) : kd (i + 61) = 2 := kd_all (P := fun i => kd i = 9 → kd (i + 61) = 2) (by decide +kernel) (by rw [h]; decide) h
theorem kf_X10_history {i : Nat} (h : kd i = 9) : kd (i + 120) = 1 := kd_all (P := fun i => kd i = 9 → kd (i + 120) = 1) (by decide +kernel) (by rw [h]; decide) h
theorem kf_X10_reader {i : Nat} (h : kd i = 9) : kd (i + 594) = 4 := kd_all (P := fun i => kd i = 9 → kd (i + 594) = 4) (by decide +kernel) (by rw [h]; decide) h
theorem kf_X10_ways {i : Nat} (h : kd i = 9) : kd (i + 602) = 6 := kd_all (P := fun i => kd i = 9 → kd (i + 602) = 6) (by decide +kernel) (by rw [h]; decide) h
theorem kf_X10_worthMeter {i : Nat} (h : kd i = 9) : kd (i + 606) = 7 := kd_all (P := fun i => kd i = 9 → kd (i + 606) = 7) (by decide +kernel) (by rw [h]; decide) h
theorem kf_X11_rows {i : Nat} (h : kd i = 10) : kd (i + 1) = 11 := kd_all (P := fun i => kd i = 10 → kd (i + 1) = 11) (by decide +kernel) (by rw [h]; decide) h
theorem af_X11_rows {i : Nat} (h : kd i = 10) : alen (i + 1) = 39330 := kd_all (P := fun i => kd i = 10 → alen (i + 1) = 39330) (by decide +kernel) (by rw [h]; decide) h
theorem kf_X11_read {i : Nat} (h : kd i = 10) : kd (i + 2) = 11 := kd_all (P := fun i => kd i = 10 → kd (i + 2) = 11) (by decide +kernel) (by rw [h]; decide) h
theorem af_X11_read {i : Nat} (h : kd i = 10) : alen (i + 2) = 4370 := kd_all (P := fun i => kd i = 10 → alen (i + 2) = 4370) (by decide +kernel) (by rw [h]; decide) h
theorem kf_X11_held {i : Nat} (h : kd i = 10) : kd (i + 3) = 11 := kd_all (P := fun i => kd i = 10 → kd (i + 3) = 11) (by decide +kernel) (by rw [h]; decide) h
theorem af_X11_held {i : Nat} (h : kd i = 10) : alen (i + 3) = 801 := kd_all (P := fun i => kd i = 10 → alen (i + 3) = 801) (by decide +kernel) (by rw [h]; decide) h
theorem kf_X11_by {i : Nat} (h : kd i = 10) : kd (i + 4) = 11 := kd_all (P := fun i => kd i = 10 → kd (i + 4) = 11) (by decide +kernel) (by rw [h]; decide) h
theorem af_X11_by {i : Nat} (h : kd i = 10) : alen (i + 4) = 8 := kd_all (P := fun i => kd i = 10 → alen (i + 4) = 8) (by decide +kernel) (by rw [h]; decide) h
theorem kf_X11_fewest {i : Nat} (h : kd i = 10) : kd (i + 5) = 11 := kd_all (P := fun i => kd i = 10 → kd (i + 5) = 11) (by decide +kernel) (by rw [h]; decide) h
theorem af_X11_fewest {i : Nat} (h : kd i = 10) : alen (i + 5) = 64 := kd_all (P := fun i => kd i = 10 → alen (i + 5) = 64) (by decide +kernel) (by rw [h]; decide) h
theorem kf_X11_safestBy {i : Nat} (h : kd i = 10) : kd (i + 6) = 11 := kd_all (P := fun i => kd i = 10 → kd (i + 6) = 11) (by decide +kernel) (by rw [h]; decide) h
theorem af_X11_safestBy {i : Nat} (h : kd i = 10) : alen (i + 6) = 64 := kd_all (P := fun i => kd i = 10 → alen (i + 6) = 64) (by decide +kernel) (by rw [h]; decide) h
theorem kf_X11_plan {i : Nat} (h : kd i = 10) : kd (i + 7) = 11 := kd_all (P := fun i => kd i = 10 → kd (i + 7) = 11) (by decide +kernel) (by rw [h]; decide) h
theorem af_X11_plan {i : Nat} (h : kd i = 10) : alen (i + 7) = 6 := kd_all (P := fun i => kd i = 10 → alen (i + 7) = 6) (by decide +kernel) (by rw [h]; decide) h
theorem kf_X11_pile {i : Nat} (h : kd i = 10) : kd (i + 8) = 12 := kd_all (P := fun i => kd i = 10 → kd (i + 8) = 12) (by decide +kernel) (by rw [h]; decide) h
theorem af_X11_pile {i : Nat} (h : kd i = 10) : alen (i + 8) = 801 := kd_all (P := fun i => kd i = 10 → alen (i + 8) = 801) (by decide +kernel) (by rw [h]; decide) h
theorem kf_X11_text {i : Nat} (h : kd i = 10) : kd (i + 9) = 11 := kd_all (P := fun i => kd i = 10 → kd (i + 9) = 11) (by decide +kernel) (by rw [h]; decide) h
theorem af_X11_text {i : Nat} (h : kd i = 10) : alen (i + 9) = 800 := kd_all (P := fun i => kd i = 10 → alen (i + 9) = 800) (by decide +kernel) (by rw [h]; decide) h
theorem kf_X11_reached {i : Nat} (h : kd i = 10) : kd (i + 10) = 13 := kd_all (P := fun i => kd i = 10 → kd (i + 10) = 13) (by decide +kernel) (by rw [h]; decide) h
theorem af_X11_reached {i : Nat} (h : kd i = 10) : alen (i + 10) = 64 := kd_all (P := fun i => kd i = 10 → alen (i + 10) = 64) (by decide +kernel) (by rw [h]; decide) h
theorem kq_16 {i : Nat} (h : kd i = 16) {k : Nat} (hk : k < alen i) : kd (i + 2 + 9 * k) = 3 := kd_all (P := fun i => kd i = 16 → ∀ k, k < alen i → kd (i + 2 + 9 * k) = 3) (by decide +kernel) (by rw [h]; decide) h k hk
theorem kq_17 {i : Nat} (h : kd i = 17) {k : Nat} (hk : k < alen i) : kd (i + 1 + 59 * k) = 2 := kd_all (P := fun i => kd i = 17 → ∀ k, k < alen i → kd (i + 1 + 59 * k) = 2) (by decide +kernel) (by rw [h]; decide) h k hk
