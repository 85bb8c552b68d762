def R_GrantServer : String := "GrantServer"
def R_Client : String := "GrantServer$Client"
def R_Family : String := "GrantServer$Family"
def R_Grant : String := "GrantServer$Grant"
def R_Shelf : String := "GrantServer$Shelf"
def R_Text : String := "GrantServer$Text"
def R_Wrapping : String := "GrantServer$Wrapping"
def R_ClaimsReader : String := "GrantServer$ClaimsReader"
def R_GrantServerModel : String := "GrantServerModel"
def R_GrantServerLaw : String := "GrantServerLaw"
def F_GrantServer : u_T := fun k => match k with
  | 0 => ("GrantServer", "codeLife", "I", true)
  | 1 => ("GrantServer", "accessLife", "I", true)
  | 2 => ("GrantServer", "refreshLife", "I", true)
  | 3 => ("GrantServer", "clients", "[LGrantServer$Client;", true)
  | 4 => ("GrantServer", "codes", "LGrantServer$Shelf;", true)
  | 5 => ("GrantServer", "refreshTokens", "LGrantServer$Shelf;", true)
  | 6 => ("GrantServer", "accessTokens", "LGrantServer$Shelf;", true)
  | 7 => ("GrantServer", "input", "LGrantServer$Text;", true)
  | 8 => ("GrantServer", "output", "LGrantServer$Text;", true)
  | 9 => ("GrantServer", "plain", "LGrantServer$Text;", true)
  | 10 => ("GrantServer", "reader", "LGrantServer$ClaimsReader;", true)
  | 11 => ("GrantServer", "wrapping", "LGrantServer$Wrapping;", true)
  | 12 => ("GrantServer", "clientCount", "I", false)
  | 13 => ("GrantServer", "loggedIn", "I", false)
  | 14 => ("GrantServer", "accessTokensMade", "I", false)
  | _ => ("GrantServer", "time", "I", false)
def t_GrantServer : Nat → FieldType := fun k => match k with
  | 0 => .int
  | 1 => .int
  | 2 => .int
  | 3 => .array (.object "GrantServer$Client")
  | 4 => .object "GrantServer$Shelf"
  | 5 => .object "GrantServer$Shelf"
  | 6 => .object "GrantServer$Shelf"
  | 7 => .object "GrantServer$Text"
  | 8 => .object "GrantServer$Text"
  | 9 => .object "GrantServer$Text"
  | 10 => .object "GrantServer$ClaimsReader"
  | 11 => .object "GrantServer$Wrapping"
  | 12 => .int
  | 13 => .int
  | 14 => .int
  | _ => .int
def F_Client : u_T := fun k => match k with
  | 0 => ("GrantServer$Client", "secret", "I", true)
  | 1 => ("GrantServer$Client", "redirect", "I", true)
  | _ => ("GrantServer$Client", "scopes", "I", true)
def t_Client : Nat → FieldType := fun k => match k with
  | 0 => .int
  | 1 => .int
  | _ => .int
def F_Family : u_T := fun k => match k with
  | 0 => ("GrantServer$Family", "scopes", "I", true)
  | 1 => ("GrantServer$Family", "audience", "I", true)
  | _ => ("GrantServer$Family", "revoked", "Z", false)
def t_Family : Nat → FieldType := fun k => match k with
  | 0 => .int
  | 1 => .int
  | _ => .boolean
def F_Grant : u_T := fun k => match k with
  | 0 => ("GrantServer$Grant", "number", "I", false)
  | 1 => ("GrantServer$Grant", "owner", "I", false)
  | 2 => ("GrantServer$Grant", "scopes", "I", false)
  | 3 => ("GrantServer$Grant", "end", "I", false)
  | 4 => ("GrantServer$Grant", "redirect", "I", false)
  | 5 => ("GrantServer$Grant", "challenge", "I", false)
  | 6 => ("GrantServer$Grant", "spent", "Z", false)
  | 7 => ("GrantServer$Grant", "revoked", "Z", false)
  | _ => ("GrantServer$Grant", "family", "LGrantServer$Family;", false)
def t_Grant : Nat → FieldType := fun k => match k with
  | 0 => .int
  | 1 => .int
  | 2 => .int
  | 3 => .int
  | 4 => .int
  | 5 => .int
  | 6 => .boolean
  | 7 => .boolean
  | _ => .object "GrantServer$Family"
def F_Shelf : u_T := fun k => match k with
  | 0 => ("GrantServer$Shelf", "grants", "[LGrantServer$Grant;", true)
  | _ => ("GrantServer$Shelf", "used", "I", false)
def t_Shelf : Nat → FieldType := fun k => match k with
  | 0 => .array (.object "GrantServer$Grant")
  | _ => .int
def F_Text : u_T := fun k => match k with
  | 0 => ("GrantServer$Text", "chars", "[C", true)
  | _ => ("GrantServer$Text", "length", "I", false)
def t_Text : Nat → FieldType := fun k => match k with
  | 0 => .array .char
  | _ => .int
def F_Wrapping : u_T := fun k => match k with
  | _ => ("GrantServer$Wrapping", "sealKey", "I", true)
def t_Wrapping : Nat → FieldType := fun k => match k with
  | _ => .int
def F_ClaimsReader : u_T := fun k => match k with
  | 0 => ("GrantServer$ClaimsReader", "values", "[I", true)
  | 1 => ("GrantServer$ClaimsReader", "seen", "[Z", true)
  | _ => ("GrantServer$ClaimsReader", "at", "I", false)
def t_ClaimsReader : Nat → FieldType := fun k => match k with
  | 0 => .array .int
  | 1 => .array .boolean
  | _ => .int
def F_GrantServerModel : u_T := fun k => match k with
  | 0 => ("GrantServerModel", "sealKey", "J", true)
  | 1 => ("GrantServerModel", "codeLife", "I", true)
  | 2 => ("GrantServerModel", "accessLife", "I", true)
  | 3 => ("GrantServerModel", "refreshLife", "I", true)
  | 4 => ("GrantServerModel", "now", "I", false)
  | 5 => ("GrantServerModel", "secrets", "[I", true)
  | 6 => ("GrantServerModel", "redirects", "[I", true)
  | 7 => ("GrantServerModel", "allowed", "[I", true)
  | 8 => ("GrantServerModel", "clients", "I", false)
  | 9 => ("GrantServerModel", "user", "I", false)
  | 10 => ("GrantServerModel", "number", "[I", true)
  | 11 => ("GrantServerModel", "owner", "[I", true)
  | 12 => ("GrantServerModel", "scopesOf", "[I", true)
  | 13 => ("GrantServerModel", "end", "[I", true)
  | 14 => ("GrantServerModel", "over", "[Z", true)
  | 15 => ("GrantServerModel", "family", "[I", true)
  | 16 => ("GrantServerModel", "codeRedirect", "[I", true)
  | 17 => ("GrantServerModel", "codeChallenge", "[I", true)
  | 18 => ("GrantServerModel", "made", "I", false)
  | 19 => ("GrantServerModel", "familyScopes", "[I", true)
  | 20 => ("GrantServerModel", "familyAudience", "[I", true)
  | 21 => ("GrantServerModel", "revoked", "[Z", true)
  | 22 => ("GrantServerModel", "families", "I", false)
  | 23 => ("GrantServerModel", "input", "[I", true)
  | 24 => ("GrantServerModel", "inputs", "I", false)
  | 25 => ("GrantServerModel", "output", "[I", true)
  | 26 => ("GrantServerModel", "outputs", "I", false)
  | 27 => ("GrantServerModel", "plain", "[I", true)
  | 28 => ("GrantServerModel", "plains", "I", false)
  | 29 => ("GrantServerModel", "at", "I", false)
  | _ => ("GrantServerModel", "claim", "[I", true)
def t_GrantServerModel : Nat → FieldType := fun k => match k with
  | 0 => .long
  | 1 => .int
  | 2 => .int
  | 3 => .int
  | 4 => .int
  | 5 => .array .int
  | 6 => .array .int
  | 7 => .array .int
  | 8 => .int
  | 9 => .int
  | 10 => .array .int
  | 11 => .array .int
  | 12 => .array .int
  | 13 => .array .int
  | 14 => .array .boolean
  | 15 => .array .int
  | 16 => .array .int
  | 17 => .array .int
  | 18 => .int
  | 19 => .array .int
  | 20 => .array .int
  | 21 => .array .boolean
  | 22 => .int
  | 23 => .array .int
  | 24 => .int
  | 25 => .array .int
  | 26 => .int
  | 27 => .array .int
  | 28 => .int
  | 29 => .int
  | _ => .array .int
abbrev vwCl : List vw_C := [(R_GrantServer, F_GrantServer, 16), (R_Client, F_Client, 3), (R_Family, F_Family, 3), (R_Grant, F_Grant, 9), (R_Shelf, F_Shelf, 2), (R_Text, F_Text, 2), (R_Wrapping, F_Wrapping, 1), (R_ClaimsReader, F_ClaimsReader, 3), (R_GrantServerModel, F_GrantServerModel, 31)]
abbrev tyL (k : Nat → ClassId) : List (ClassId × FieldType) := [(k 0, .int), (k 1, .boolean), (k 2, .char), (k 3, .object "GrantServer$Grant"), (k 4, .object "GrantServer$Client")]
abbrev b_GrantServer_init : ByteArray := prog_1_method_1_code
def y_GrantServer_init : MethodName := ⟨R_GrantServer, "<init>", "(IIII)V"⟩
abbrev b_GrantServer_client : ByteArray := prog_1_method_2_code
def y_GrantServer_client : MethodName := ⟨R_GrantServer, "client", "(III)I"⟩
abbrev b_GrantServer_login : ByteArray := prog_1_method_3_code
def y_GrantServer_login : MethodName := ⟨R_GrantServer, "login", "(II)Z"⟩
abbrev b_GrantServer_authorize : ByteArray := prog_1_method_4_code
def y_GrantServer_authorize : MethodName := ⟨R_GrantServer, "authorize", "(IIIII)I"⟩
abbrev b_GrantServer_exchange : ByteArray := prog_1_method_5_code
def y_GrantServer_exchange : MethodName := ⟨R_GrantServer, "exchange", "(IIII)I"⟩
abbrev b_GrantServer_refresh : ByteArray := prog_1_method_6_code
def y_GrantServer_refresh : MethodName := ⟨R_GrantServer, "refresh", "(III)I"⟩
abbrev b_GrantServer_revoke : ByteArray := prog_1_method_7_code
def y_GrantServer_revoke : MethodName := ⟨R_GrantServer, "revoke", "(II)I"⟩
abbrev b_GrantServer_active : ByteArray := prog_1_method_8_code
def y_GrantServer_active : MethodName := ⟨R_GrantServer, "active", "(II)Z"⟩
abbrev b_GrantServer_check : ByteArray := prog_1_method_9_code
def y_GrantServer_check : MethodName := ⟨R_GrantServer, "check", "(II)I"⟩
abbrev b_GrantServer_key : ByteArray := prog_1_method_10_code
def y_GrantServer_key : MethodName := ⟨R_GrantServer, "key", "(C)Z"⟩
abbrev b_GrantServer_alter : ByteArray := prog_1_method_11_code
def y_GrantServer_alter : MethodName := ⟨R_GrantServer, "alter", "(IC)Z"⟩
abbrev b_GrantServer_take : ByteArray := prog_1_method_12_code
def y_GrantServer_take : MethodName := ⟨R_GrantServer, "take", "(Z)I"⟩
abbrev b_GrantServer_letter : ByteArray := prog_1_method_13_code
def y_GrantServer_letter : MethodName := ⟨R_GrantServer, "letter", "(ZI)I"⟩
abbrev b_GrantServer_challenge : ByteArray := prog_1_method_14_code
def y_GrantServer_challenge : MethodName := ⟨R_GrantServer, "challenge", "()I"⟩
abbrev b_GrantServer_wrap : ByteArray := prog_1_method_15_code
def y_GrantServer_wrap : MethodName := ⟨R_GrantServer, "wrap", "()I"⟩
abbrev b_GrantServer_tick : ByteArray := prog_1_method_16_code
def y_GrantServer_tick : MethodName := ⟨R_GrantServer, "tick", "(I)Z"⟩
abbrev b_GrantServer_sweep : ByteArray := prog_1_method_17_code
def y_GrantServer_sweep : MethodName := ⟨R_GrantServer, "sweep", "()I"⟩
abbrev b_GrantServer_count : ByteArray := prog_1_method_18_code
def y_GrantServer_count : MethodName := ⟨R_GrantServer, "count", "(IZ)I"⟩
abbrev b_GrantServer_keptLife : ByteArray := prog_1_method_19_code
def y_GrantServer_keptLife : MethodName := ⟨R_GrantServer, "keptLife", "(I)I"⟩
abbrev b_GrantServer_isSomeScopes : ByteArray := prog_1_method_20_code
def y_GrantServer_isSomeScopes : MethodName := ⟨R_GrantServer, "isSomeScopes", "(I)Z"⟩
abbrev b_GrantServer_isWithin : ByteArray := prog_1_method_21_code
def y_GrantServer_isWithin : MethodName := ⟨R_GrantServer, "isWithin", "(II)Z"⟩
abbrev b_GrantServer_isWritable : ByteArray := prog_1_method_22_code
def y_GrantServer_isWritable : MethodName := ⟨R_GrantServer, "isWritable", "(C)Z"⟩
abbrev b_GrantServer_clientWith : ByteArray := prog_1_method_23_code
def y_GrantServer_clientWith : MethodName := ⟨R_GrantServer, "clientWith", "(I)LGrantServer$Client;"⟩
abbrev b_GrantServer_shelfOf : ByteArray := prog_1_method_24_code
def y_GrantServer_shelfOf : MethodName := ⟨R_GrantServer, "shelfOf", "(I)LGrantServer$Shelf;"⟩
abbrev b_GrantServer_isFree : ByteArray := prog_1_method_25_code
def y_GrantServer_isFree : MethodName := ⟨R_GrantServer, "isFree", "(I)Z"⟩
abbrev b_GrantServer_refusalOfNewTokens : ByteArray := prog_1_method_26_code
def y_GrantServer_refusalOfNewTokens : MethodName := ⟨R_GrantServer, "refusalOfNewTokens", "(I)I"⟩
abbrev b_GrantServer_giveTokens : ByteArray := prog_1_method_27_code
def y_GrantServer_giveTokens : MethodName := ⟨R_GrantServer, "giveTokens", "(LGrantServer$Family;III)I"⟩
abbrev b_GrantServer_writeClaims : ByteArray := prog_1_method_28_code
def y_GrantServer_writeClaims : MethodName := ⟨R_GrantServer, "writeClaims", "(LGrantServer$Grant;I)V"⟩
abbrev b_GrantServer_judgeClaims : ByteArray := prog_1_method_29_code
def y_GrantServer_judgeClaims : MethodName := ⟨R_GrantServer, "judgeClaims", "(II)I"⟩
abbrev b_GrantServer_activeTokens : ByteArray := prog_1_method_30_code
def y_GrantServer_activeTokens : MethodName := ⟨R_GrantServer, "activeTokens", "()I"⟩
abbrev b_GrantServer_revokeFamilyOf : ByteArray := prog_1_method_31_code
def y_GrantServer_revokeFamilyOf : MethodName := ⟨R_GrantServer, "revokeFamilyOf", "(LGrantServer$Grant;)V"⟩
abbrev b_GrantServer_revokeAlone : ByteArray := prog_1_method_32_code
def y_GrantServer_revokeAlone : MethodName := ⟨R_GrantServer, "revokeAlone", "(LGrantServer$Grant;)V"⟩
abbrev b_Client_init : ByteArray := prog_3_method_1_code
def y_Client_init : MethodName := ⟨R_Client, "<init>", "(III)V"⟩
abbrev b_Family_init : ByteArray := prog_4_method_1_code
def y_Family_init : MethodName := ⟨R_Family, "<init>", "(II)V"⟩
abbrev b_Grant_init : ByteArray := prog_5_method_1_code
def y_Grant_init : MethodName := ⟨R_Grant, "<init>", "()V"⟩
abbrev b_Grant_begin : ByteArray := prog_5_method_2_code
def y_Grant_begin : MethodName := ⟨R_Grant, "begin", "(IIIILGrantServer$Family;)V"⟩
abbrev b_Grant_isActive : ByteArray := prog_5_method_3_code
def y_Grant_isActive : MethodName := ⟨R_Grant, "isActive", "(I)Z"⟩
abbrev b_Grant_revokeFamily : ByteArray := prog_5_method_4_code
def y_Grant_revokeFamily : MethodName := ⟨R_Grant, "revokeFamily", "()V"⟩
abbrev b_Shelf_init : ByteArray := prog_6_method_1_code
def y_Shelf_init : MethodName := ⟨R_Shelf, "<init>", "(I)V"⟩
abbrev b_Shelf_rows : ByteArray := prog_6_method_2_code
def y_Shelf_rows : MethodName := ⟨R_Shelf, "rows", "()I"⟩
abbrev b_Shelf_isFull : ByteArray := prog_6_method_3_code
def y_Shelf_isFull : MethodName := ⟨R_Shelf, "isFull", "()Z"⟩
abbrev b_Shelf_nextRow : ByteArray := prog_6_method_4_code
def y_Shelf_nextRow : MethodName := ⟨R_Shelf, "nextRow", "()LGrantServer$Grant;"⟩
abbrev b_Shelf_find : ByteArray := prog_6_method_5_code
def y_Shelf_find : MethodName := ⟨R_Shelf, "find", "(I)LGrantServer$Grant;"⟩
abbrev b_Shelf_findOwned : ByteArray := prog_6_method_6_code
def y_Shelf_findOwned : MethodName := ⟨R_Shelf, "findOwned", "(II)LGrantServer$Grant;"⟩
abbrev b_Shelf_hasActive : ByteArray := prog_6_method_7_code
def y_Shelf_hasActive : MethodName := ⟨R_Shelf, "hasActive", "(II)Z"⟩
abbrev b_Shelf_activeRows : ByteArray := prog_6_method_8_code
def y_Shelf_activeRows : MethodName := ⟨R_Shelf, "activeRows", "(I)I"⟩
abbrev b_Shelf_dropEnded : ByteArray := prog_6_method_9_code
def y_Shelf_dropEnded : MethodName := ⟨R_Shelf, "dropEnded", "(I)I"⟩
abbrev b_Shelf_swap : ByteArray := prog_6_method_10_code
def y_Shelf_swap : MethodName := ⟨R_Shelf, "swap", "(II)V"⟩
abbrev b_Text_init : ByteArray := prog_7_method_1_code
def y_Text_init : MethodName := ⟨R_Text, "<init>", "()V"⟩
abbrev b_Text_size : ByteArray := prog_7_method_2_code
def y_Text_size : MethodName := ⟨R_Text, "size", "()I"⟩
abbrev b_Text_codeAt : ByteArray := prog_7_method_3_code
def y_Text_codeAt : MethodName := ⟨R_Text, "codeAt", "(I)I"⟩
abbrev b_Text_clear : ByteArray := prog_7_method_4_code
def y_Text_clear : MethodName := ⟨R_Text, "clear", "()V"⟩
abbrev b_Text_add : ByteArray := prog_7_method_5_code
def y_Text_add : MethodName := ⟨R_Text, "add", "(C)Z"⟩
abbrev b_Text_put : ByteArray := prog_7_method_6_code
def y_Text_put : MethodName := ⟨R_Text, "put", "(IC)Z"⟩
abbrev b_Text_copyFrom : ByteArray := prog_7_method_7_code
def y_Text_copyFrom : MethodName := ⟨R_Text, "copyFrom", "(LGrantServer$Text;)V"⟩
abbrev b_Text_addText : ByteArray := prog_7_method_8_code
def y_Text_addText : MethodName := ⟨R_Text, "addText", "(Ljava/lang/String;)V"⟩
abbrev b_Text_addNumber : ByteArray := prog_7_method_9_code
def y_Text_addNumber : MethodName := ⟨R_Text, "addNumber", "(I)V"⟩
abbrev b_Text_hash : ByteArray := prog_7_method_10_code
def y_Text_hash : MethodName := ⟨R_Text, "hash", "()I"⟩
abbrev b_Wrapping_init : ByteArray := prog_8_method_1_code
def y_Wrapping_init : MethodName := ⟨R_Wrapping, "<init>", "(I)V"⟩
abbrev b_Wrapping_sizeOfWrapped : ByteArray := prog_8_method_2_code
def y_Wrapping_sizeOfWrapped : MethodName := ⟨R_Wrapping, "sizeOfWrapped", "(LGrantServer$Text;)I"⟩
abbrev b_Wrapping_wrapInto : ByteArray := prog_8_method_3_code
def y_Wrapping_wrapInto : MethodName := ⟨R_Wrapping, "wrapInto", "(LGrantServer$Text;LGrantServer$Text;)V"⟩
abbrev b_Wrapping_hasForm : ByteArray := prog_8_method_4_code
def y_Wrapping_hasForm : MethodName := ⟨R_Wrapping, "hasForm", "(LGrantServer$Text;)Z"⟩
abbrev b_Wrapping_hasSeal : ByteArray := prog_8_method_5_code
def y_Wrapping_hasSeal : MethodName := ⟨R_Wrapping, "hasSeal", "(LGrantServer$Text;)Z"⟩
abbrev b_Wrapping_unwrapInto : ByteArray := prog_8_method_6_code
def y_Wrapping_unwrapInto : MethodName := ⟨R_Wrapping, "unwrapInto", "(LGrantServer$Text;LGrantServer$Text;)V"⟩
abbrev b_Wrapping_signsFor : ByteArray := prog_8_method_7_code
def y_Wrapping_signsFor : MethodName := ⟨R_Wrapping, "signsFor", "(LGrantServer$Text;)I"⟩
abbrev b_Wrapping_sixBits : ByteArray := prog_8_method_8_code
def y_Wrapping_sixBits : MethodName := ⟨R_Wrapping, "sixBits", "(LGrantServer$Text;I)I"⟩
abbrev b_Wrapping_eightBits : ByteArray := prog_8_method_9_code
def y_Wrapping_eightBits : MethodName := ⟨R_Wrapping, "eightBits", "(LGrantServer$Text;I)I"⟩
abbrev b_Wrapping_signValue : ByteArray := prog_8_method_10_code
def y_Wrapping_signValue : MethodName := ⟨R_Wrapping, "signValue", "(LGrantServer$Text;I)I"⟩
abbrev b_Wrapping_sealOf : ByteArray := prog_8_method_11_code
def y_Wrapping_sealOf : MethodName := ⟨R_Wrapping, "sealOf", "(LGrantServer$Text;I)J"⟩
abbrev b_Wrapping_sealSign : ByteArray := prog_8_method_12_code
def y_Wrapping_sealSign : MethodName := ⟨R_Wrapping, "sealSign", "(JI)C"⟩
abbrev b_ClaimsReader_init : ByteArray := prog_2_method_1_code
def y_ClaimsReader_init : MethodName := ⟨R_ClaimsReader, "<init>", "()V"⟩
abbrev b_ClaimsReader_value : ByteArray := prog_2_method_2_code
def y_ClaimsReader_value : MethodName := ⟨R_ClaimsReader, "value", "(I)I"⟩
abbrev b_ClaimsReader_reads : ByteArray := prog_2_method_3_code
def y_ClaimsReader_reads : MethodName := ⟨R_ClaimsReader, "reads", "(LGrantServer$Text;)Z"⟩
abbrev b_ClaimsReader_begin : ByteArray := prog_2_method_4_code
def y_ClaimsReader_begin : MethodName := ⟨R_ClaimsReader, "begin", "()V"⟩
abbrev b_ClaimsReader_readsMember : ByteArray := prog_2_method_5_code
def y_ClaimsReader_readsMember : MethodName := ⟨R_ClaimsReader, "readsMember", "(LGrantServer$Text;)Z"⟩
abbrev b_ClaimsReader_readsMark : ByteArray := prog_2_method_6_code
def y_ClaimsReader_readsMark : MethodName := ⟨R_ClaimsReader, "readsMark", "(LGrantServer$Text;C)Z"⟩
abbrev b_ClaimsReader_readName : ByteArray := prog_2_method_7_code
def y_ClaimsReader_readName : MethodName := ⟨R_ClaimsReader, "readName", "(LGrantServer$Text;)I"⟩
abbrev b_ClaimsReader_standsHere : ByteArray := prog_2_method_8_code
def y_ClaimsReader_standsHere : MethodName := ⟨R_ClaimsReader, "standsHere", "(LGrantServer$Text;Ljava/lang/String;)Z"⟩
abbrev b_ClaimsReader_readNumber : ByteArray := prog_2_method_9_code
def y_ClaimsReader_readNumber : MethodName := ⟨R_ClaimsReader, "readNumber", "(LGrantServer$Text;)I"⟩
abbrev b_ClaimsReader_skipSpaces : ByteArray := prog_2_method_10_code
def y_ClaimsReader_skipSpaces : MethodName := ⟨R_ClaimsReader, "skipSpaces", "(LGrantServer$Text;)V"⟩
abbrev b_ClaimsReader_isDigit : ByteArray := prog_2_method_11_code
def y_ClaimsReader_isDigit : MethodName := ⟨R_ClaimsReader, "isDigit", "(I)Z"⟩
abbrev b_ClaimsReader_quotedName : ByteArray := prog_2_method_12_code
def y_ClaimsReader_quotedName : MethodName := ⟨R_ClaimsReader, "quotedName", "(I)Ljava/lang/String;"⟩
abbrev b_GrantServerModel_init : ByteArray := prog_10_method_1_code
def y_GrantServerModel_init : MethodName := ⟨R_GrantServerModel, "<init>", "(IIII)V"⟩
abbrev b_GrantServerModel_within : ByteArray := prog_10_method_2_code
def y_GrantServerModel_within : MethodName := ⟨R_GrantServerModel, "within", "(I)I"⟩
abbrev b_GrantServerModel_client : ByteArray := prog_10_method_3_code
def y_GrantServerModel_client : MethodName := ⟨R_GrantServerModel, "client", "(III)I"⟩
abbrev b_GrantServerModel_isClient : ByteArray := prog_10_method_4_code
def y_GrantServerModel_isClient : MethodName := ⟨R_GrantServerModel, "isClient", "(I)Z"⟩
abbrev b_GrantServerModel_login : ByteArray := prog_10_method_5_code
def y_GrantServerModel_login : MethodName := ⟨R_GrantServerModel, "login", "(II)Z"⟩
abbrev b_GrantServerModel_from : ByteArray := prog_10_method_6_code
def y_GrantServerModel_from : MethodName := ⟨R_GrantServerModel, "from", "(I)I"⟩
abbrev b_GrantServerModel_to : ByteArray := prog_10_method_7_code
def y_GrantServerModel_to : MethodName := ⟨R_GrantServerModel, "to", "(I)I"⟩
abbrev b_GrantServerModel_find : ByteArray := prog_10_method_8_code
def y_GrantServerModel_find : MethodName := ⟨R_GrantServerModel, "find", "(II)I"⟩
abbrev b_GrantServerModel_room : ByteArray := prog_10_method_9_code
def y_GrantServerModel_room : MethodName := ⟨R_GrantServerModel, "room", "(I)I"⟩
abbrev b_GrantServerModel_isFree : ByteArray := prog_10_method_10_code
def y_GrantServerModel_isFree : MethodName := ⟨R_GrantServerModel, "isFree", "(I)Z"⟩
abbrev b_GrantServerModel_isActive : ByteArray := prog_10_method_11_code
def y_GrantServerModel_isActive : MethodName := ⟨R_GrantServerModel, "isActive", "(I)Z"⟩
abbrev b_GrantServerModel_put : ByteArray := prog_10_method_12_code
def y_GrantServerModel_put : MethodName := ⟨R_GrantServerModel, "put", "(IIIIII)V"⟩
abbrev b_GrantServerModel_authorize : ByteArray := prog_10_method_13_code
def y_GrantServerModel_authorize : MethodName := ⟨R_GrantServerModel, "authorize", "(IIIII)I"⟩
abbrev b_GrantServerModel_grant : ByteArray := prog_10_method_14_code
def y_GrantServerModel_grant : MethodName := ⟨R_GrantServerModel, "grant", "(IIII)I"⟩
abbrev b_GrantServerModel_exchange : ByteArray := prog_10_method_15_code
def y_GrantServerModel_exchange : MethodName := ⟨R_GrantServerModel, "exchange", "(IIII)I"⟩
abbrev b_GrantServerModel_refresh : ByteArray := prog_10_method_16_code
def y_GrantServerModel_refresh : MethodName := ⟨R_GrantServerModel, "refresh", "(III)I"⟩
abbrev b_GrantServerModel_activeTokens : ByteArray := prog_10_method_17_code
def y_GrantServerModel_activeTokens : MethodName := ⟨R_GrantServerModel, "activeTokens", "()I"⟩
abbrev b_GrantServerModel_revoke : ByteArray := prog_10_method_18_code
def y_GrantServerModel_revoke : MethodName := ⟨R_GrantServerModel, "revoke", "(II)I"⟩
abbrev b_GrantServerModel_active : ByteArray := prog_10_method_19_code
def y_GrantServerModel_active : MethodName := ⟨R_GrantServerModel, "active", "(II)Z"⟩
abbrev b_GrantServerModel_sweep : ByteArray := prog_10_method_20_code
def y_GrantServerModel_sweep : MethodName := ⟨R_GrantServerModel, "sweep", "()I"⟩
abbrev b_GrantServerModel_count : ByteArray := prog_10_method_21_code
def y_GrantServerModel_count : MethodName := ⟨R_GrantServerModel, "count", "(IZ)I"⟩
abbrev b_GrantServerModel_tick : ByteArray := prog_10_method_22_code
def y_GrantServerModel_tick : MethodName := ⟨R_GrantServerModel, "tick", "(I)Z"⟩
abbrev b_GrantServerModel_say : ByteArray := prog_10_method_23_code
def y_GrantServerModel_say : MethodName := ⟨R_GrantServerModel, "say", "(II)V"⟩
abbrev b_GrantServerModel_sayNumber : ByteArray := prog_10_method_24_code
def y_GrantServerModel_sayNumber : MethodName := ⟨R_GrantServerModel, "sayNumber", "(I)V"⟩
abbrev b_GrantServerModel_nameAt : ByteArray := prog_10_method_25_code
def y_GrantServerModel_nameAt : MethodName := ⟨R_GrantServerModel, "nameAt", "(II)I"⟩
abbrev b_GrantServerModel_member : ByteArray := prog_10_method_26_code
def y_GrantServerModel_member : MethodName := ⟨R_GrantServerModel, "member", "(II)V"⟩
abbrev b_GrantServerModel_sign : ByteArray := prog_10_method_27_code
def y_GrantServerModel_sign : MethodName := ⟨R_GrantServerModel, "sign", "(I)I"⟩
abbrev b_GrantServerModel_signValue : ByteArray := prog_10_method_28_code
def y_GrantServerModel_signValue : MethodName := ⟨R_GrantServerModel, "signValue", "(I)I"⟩
abbrev b_GrantServerModel_mixed : ByteArray := prog_10_method_29_code
def y_GrantServerModel_mixed : MethodName := ⟨R_GrantServerModel, "mixed", "(JI)J"⟩
abbrev b_GrantServerModel_six : ByteArray := prog_10_method_30_code
def y_GrantServerModel_six : MethodName := ⟨R_GrantServerModel, "six", "(I)I"⟩
abbrev b_GrantServerModel_wrapPlain : ByteArray := prog_10_method_31_code
def y_GrantServerModel_wrapPlain : MethodName := ⟨R_GrantServerModel, "wrapPlain", "()V"⟩
abbrev b_GrantServerModel_wrap : ByteArray := prog_10_method_32_code
def y_GrantServerModel_wrap : MethodName := ⟨R_GrantServerModel, "wrap", "()I"⟩
abbrev b_GrantServerModel_isText : ByteArray := prog_10_method_33_code
def y_GrantServerModel_isText : MethodName := ⟨R_GrantServerModel, "isText", "(I)Z"⟩
abbrev b_GrantServerModel_key : ByteArray := prog_10_method_34_code
def y_GrantServerModel_key : MethodName := ⟨R_GrantServerModel, "key", "(C)Z"⟩
abbrev b_GrantServerModel_alter : ByteArray := prog_10_method_35_code
def y_GrantServerModel_alter : MethodName := ⟨R_GrantServerModel, "alter", "(IC)Z"⟩
abbrev b_GrantServerModel_take : ByteArray := prog_10_method_36_code
def y_GrantServerModel_take : MethodName := ⟨R_GrantServerModel, "take", "(Z)I"⟩
abbrev b_GrantServerModel_letter : ByteArray := prog_10_method_37_code
def y_GrantServerModel_letter : MethodName := ⟨R_GrantServerModel, "letter", "(ZI)I"⟩
abbrev b_GrantServerModel_challenge : ByteArray := prog_10_method_38_code
def y_GrantServerModel_challenge : MethodName := ⟨R_GrantServerModel, "challenge", "()I"⟩
abbrev b_GrantServerModel_isForm : ByteArray := prog_10_method_39_code
def y_GrantServerModel_isForm : MethodName := ⟨R_GrantServerModel, "isForm", "()Z"⟩
abbrev b_GrantServerModel_isSealed : ByteArray := prog_10_method_40_code
def y_GrantServerModel_isSealed : MethodName := ⟨R_GrantServerModel, "isSealed", "()Z"⟩
abbrev b_GrantServerModel_unwrap : ByteArray := prog_10_method_41_code
def y_GrantServerModel_unwrap : MethodName := ⟨R_GrantServerModel, "unwrap", "()V"⟩
abbrev b_GrantServerModel_next : ByteArray := prog_10_method_42_code
def y_GrantServerModel_next : MethodName := ⟨R_GrantServerModel, "next", "()I"⟩
abbrev b_GrantServerModel_reads : ByteArray := prog_10_method_43_code
def y_GrantServerModel_reads : MethodName := ⟨R_GrantServerModel, "reads", "(I)Z"⟩
abbrev b_GrantServerModel_readName : ByteArray := prog_10_method_44_code
def y_GrantServerModel_readName : MethodName := ⟨R_GrantServerModel, "readName", "()I"⟩
abbrev b_GrantServerModel_readNumber : ByteArray := prog_10_method_45_code
def y_GrantServerModel_readNumber : MethodName := ⟨R_GrantServerModel, "readNumber", "()I"⟩
abbrev b_GrantServerModel_readMember : ByteArray := prog_10_method_46_code
def y_GrantServerModel_readMember : MethodName := ⟨R_GrantServerModel, "readMember", "()Z"⟩
abbrev b_GrantServerModel_readClaims : ByteArray := prog_10_method_47_code
def y_GrantServerModel_readClaims : MethodName := ⟨R_GrantServerModel, "readClaims", "()Z"⟩
abbrev b_GrantServerModel_check : ByteArray := prog_10_method_48_code
def y_GrantServerModel_check : MethodName := ⟨R_GrantServerModel, "check", "(II)I"⟩
abbrev b_GrantServerLaw_cell : ByteArray := method_2_code
def y_GrantServerLaw_cell : MethodName := ⟨R_GrantServerLaw, "cell", "([II)I"⟩
/-- the words that every method gets: the tables' good ones -/
def TB : List Cond := lw_tbl.filter goodWord
theorem TB_good {w : Cond} (h : w ∈ TB) : goodWord w = true := (List.mem_filter.mp h).2
theorem TBm {w : Cond} (i : Nat) (h : lw_tbl[i]? = some w) (g : goodWord w = true) : w ∈ TB := List.mem_filter.mpr ⟨List.mem_of_getElem? h, g⟩
theorem TBs {ws : List Cond} (ps : List Nat) (h : ws = ps.filterMap (fun i => lw_tbl[i]?)) (g : ws.all goodWord = true) : ∀ w ∈ ws, w ∈ TB := by
  intro w hw
  have h1 := List.all_eq_true.mp g w hw
  rw [h] at hw
  obtain ⟨i, -, hi⟩ := List.mem_filterMap.mp hw
  exact TBm i hi h1
theorem hm_gd {ws : List Cond} (h : ∀ w ∈ ws, w ∈ TB) : GoodIn TB ws := fun w hw => ⟨h w hw, good_of_word (TB_good (h w hw))⟩
/-- a method as its callers need it -/
def hm_me (y : MethodName) (bytes : ByteArray) (maxL : Nat) (ret : Option FieldType) (n : Nat) : Prop := Cond.code y bytes maxL ret ∈ TB ∧ Cond.initialized y.cls ∈ TB ∧ (y.cls ≠ "java/lang/invoke/MethodHandle" ∧ y.cls ≠ "java/lang/invoke/VarHandle" ∧ (parseMethodDescriptor y.desc).map (fun d => d.parameters.length) = some n)
def hm_meV (y : MethodName) (bytes : ByteArray) (maxL : Nat) (ret : Option FieldType) (n : Nat) : Prop := hm_me y bytes maxL ret n ∧ Cond.instanceMethod y ∈ TB ∧ Cond.selects y.cls y y ∈ TB
def hm_meS (y : MethodName) (bytes : ByteArray) (maxL : Nat) (ret : Option FieldType) (n : Nat) : Prop := hm_me y bytes maxL ret n ∧ Cond.static y ∈ TB
def hm_meI (y : MethodName) (bytes : ByteArray) (maxL : Nat) (n : Nat) : Prop := hm_me y bytes maxL none n ∧ Cond.instanceMethod y ∈ TB ∧ y.name = "<init>"
section HMW
variable {R : Room} {s : State} {args : Array Value} {own : String} {idx maxL mc ms n : Nat} {y : MethodName} {bytes : ByteArray} {ret : Option FieldType} {rm : Room}
theorem hm_cwV (hts : ∀ w ∈ TB, w.before args s = true) (hm : hm_meV y bytes maxL ret n) (hl : Cond.methodLink own idx y ∈ TB) (hrc : rm.cells = mc) (hrs : rm.slots = ms) (hR : rm.frames + 1 ≤ R.frames ∧ 8 + (maxL + 11) + rm.locals ≤ R.locals) : CallW R s args own y.cls idx y bytes maxL ret (Cond.code y bytes maxL ret :: TB) rm mc ms n := by
  obtain ⟨⟨h1, h2, h3⟩, h4, h5⟩ := hm
  refine cwV n hts (hm_gd fun w hw => ?_) rfl hrc hrs ⟨rfl, h3⟩ hR
  unfold wsV at hw
  rcases List.mem_append.mp hw with h | h
  · simp only [List.mem_cons, List.not_mem_nil, or_false] at h
    rcases h with rfl | rfl | rfl | rfl
    · exact hl
    · exact h4
    · exact h5
    · exact h2
  · rcases List.mem_cons.mp h with rfl | h
    · exact h1
    · exact h
theorem hm_cwS (hts : ∀ w ∈ TB, w.before args s = true) (hm : hm_meS y bytes maxL ret n) (hl : Cond.methodLink y.cls idx y ∈ TB) (hrc : rm.cells = mc) (hrs : rm.slots = ms) (hR : rm.frames + 1 ≤ R.frames ∧ 8 + (maxL + 11) + rm.locals ≤ R.locals) : CallB R s args y.cls idx y bytes maxL ret (Cond.code y bytes maxL ret :: TB) rm mc ms n ∧ (Cond.static y).before args s = true := by
  obtain ⟨⟨h1, h2, h3⟩, h4⟩ := hm
  refine cwS n hts (hm_gd fun w hw => ?_) rfl hrc hrs ⟨rfl, h3⟩ hR
  unfold wsS at hw
  rcases List.mem_append.mp hw with h | h
  · simp only [List.mem_cons, List.not_mem_nil, or_false] at h
    rcases h with rfl | rfl | rfl
    · exact hl
    · exact h4
    · exact h2
  · rcases List.mem_cons.mp h with rfl | h
    · exact h1
    · exact h
theorem hm_cwI (hts : ∀ w ∈ TB, w.before args s = true) (hm : hm_meI y bytes maxL n) (hl : Cond.methodLink own idx y ∈ TB) (hrc : rm.cells = mc) (hrs : rm.slots = ms) (hR : rm.frames + 1 ≤ R.frames ∧ 8 + (maxL + 11) + rm.locals ≤ R.locals) : CallB R s args own idx y bytes maxL none (Cond.code y bytes maxL none :: TB) rm mc ms n ∧ y.name = "<init>" ∧ (Cond.instanceMethod y).before args s = true := by
  obtain ⟨⟨h1, h2, h3⟩, h4, h5⟩ := hm
  refine cwI n hts (hm_gd fun w hw => ?_) rfl hrc hrs (hts _ h2) (hts _ hl) (hts _ h4) h5 h3 hR
  rcases List.mem_cons.mp hw with rfl | h
  · exact h1
  · exact h
end HMW
set_option maxRecDepth 20000 in
theorem cl_GrantServer : hm_cl vwCl TB 0 R_GrantServer F_GrantServer 16 t_GrantServer := ⟨rfl, TBs [191, 193, 195, 197, 199, 201, 203, 205, 207, 209, 211, 213, 215, 217, 219, 221] (by decide +kernel) (by decide +kernel), by decide +kernel, by decide +kernel⟩
set_option maxRecDepth 20000 in
theorem cl_Client : hm_cl vwCl TB 1 R_Client F_Client 3 t_Client := ⟨rfl, TBs [242, 244, 246] (by decide +kernel) (by decide +kernel), by decide +kernel, by decide +kernel⟩
set_option maxRecDepth 20000 in
theorem cl_Family : hm_cl vwCl TB 2 R_Family F_Family 3 t_Family := ⟨rfl, TBs [326, 328, 330] (by decide +kernel) (by decide +kernel), by decide +kernel, by decide +kernel⟩
set_option maxRecDepth 20000 in
theorem cl_Grant : hm_cl vwCl TB 3 R_Grant F_Grant 9 t_Grant := ⟨rfl, TBs [98, 100, 102, 104, 106, 108, 110, 112, 114] (by decide +kernel) (by decide +kernel), by decide +kernel, by decide +kernel⟩
set_option maxRecDepth 20000 in
theorem cl_Shelf : hm_cl vwCl TB 4 R_Shelf F_Shelf 2 t_Shelf := ⟨rfl, TBs [119, 121] (by decide +kernel) (by decide +kernel), by decide +kernel, by decide +kernel⟩
set_option maxRecDepth 20000 in
theorem cl_Text : hm_cl vwCl TB 5 R_Text F_Text 2 t_Text := ⟨rfl, TBs [132, 134] (by decide +kernel) (by decide +kernel), by decide +kernel, by decide +kernel⟩
set_option maxRecDepth 20000 in
theorem cl_Wrapping : hm_cl vwCl TB 6 R_Wrapping F_Wrapping 1 t_Wrapping := ⟨rfl, TBs [163] (by decide +kernel) (by decide +kernel), by decide +kernel, by decide +kernel⟩
set_option maxRecDepth 20000 in
theorem cl_ClaimsReader : hm_cl vwCl TB 7 R_ClaimsReader F_ClaimsReader 3 t_ClaimsReader := ⟨rfl, TBs [147, 149, 151] (by decide +kernel) (by decide +kernel), by decide +kernel, by decide +kernel⟩
set_option maxRecDepth 20000 in
theorem cl_GrantServerModel : hm_cl vwCl TB 8 R_GrantServerModel F_GrantServerModel 31 t_GrantServerModel := ⟨rfl, TBs [723, 725, 727, 729, 731, 733, 735, 737, 739, 741, 743, 745, 747, 749, 751, 753, 755, 757, 759, 761, 763, 765, 767, 769, 771, 773, 775, 777, 779, 781, 783] (by decide +kernel) (by decide +kernel), by decide +kernel, by decide +kernel⟩
