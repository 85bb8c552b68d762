/**
 * Gives out codes and tokens to clients that may act for somebody, renews them, takes them back,
 * and checks the access tokens, which are texts with a seal, for the resources.
 */
public final class GrantServer {
    public static final int NONE = -1;
    public static final int LOGIN = -2;
    public static final int GRANT = -3;
    public static final int SCOPE = -4;
    public static final int TAKEN = -5;
    public static final int FULL = -6;
    public static final int FORM = -7;
    public static final int FORGED = -8;
    public static final int CLAIMS = -9;
    public static final int EXPIRED = -10;
    public static final int DEAD = -11;
    public static final int AUDIENCE = -12;
    public static final int REDIRECT = -13;

    private static final int OK = 0;

    private static final int CODE_KIND = 0;
    private static final int REFRESH_KIND = 1;
    private static final int ACCESS_KIND = 2;

    private static final int MOST_CLIENTS = 4;
    private static final int MOST_CODES = 16;
    private static final int MOST_TOKENS = 24;
    private static final int MOST_LIFE = 1000;
    private static final int MOST_TICKS = 10000;
    private static final int LAST_NUMBER = 65535;
    private static final int LAST_AUDIENCE = 3;
    private static final int LAST_CHALLENGE = (1 << 30) - 1;
    private static final int ALL_SCOPES = 15;

    private final int codeLife;
    private final int accessLife;
    private final int refreshLife;
    private final Client[] clients = new Client[MOST_CLIENTS];
    private final Shelf codes = new Shelf(MOST_CODES);
    private final Shelf refreshTokens = new Shelf(MOST_TOKENS);
    private final Shelf accessTokens = new Shelf(MOST_TOKENS);
    private final Text input = new Text();
    private final Text output = new Text();
    private final Text plain = new Text();
    private final ClaimsReader reader = new ClaimsReader();
    private final Wrapping wrapping;
    private int clientCount = 0;
    private int loggedIn = NONE;
    private int accessTokensMade = 0;
    private int time = 0;

    public GrantServer(int key, int codes, int access, int refresh) {
        wrapping = new Wrapping(key);
        codeLife = keptLife(codes);
        accessLife = keptLife(access);
        refreshLife = keptLife(refresh);
    }

    public int client(int secret, int redirect, int scopes) {
        if (clientCount >= MOST_CLIENTS || !isSomeScopes(scopes)) {
            return NONE;
        }
        clients[clientCount] = new Client(secret, redirect, scopes);
        clientCount++;
        return clientCount - 1;
    }

    public boolean login(int client, int secret) {
        Client known = clientWith(client);
        boolean right = known != null && known.secret == secret;
        loggedIn = right ? client : NONE;
        return right;
    }

    public int authorize(int client, int redirect, int scopes, int challenge, int number) {
        Client known = clientWith(client);
        if (known == null || challenge < 0 || challenge > LAST_CHALLENGE) {
            return NONE;
        }
        if (known.redirect != redirect) {
            return REDIRECT;
        }
        if (!isSomeScopes(scopes) || !isWithin(scopes, known.scopes)) {
            return SCOPE;
        }
        if (!isFree(number)) {
            return TAKEN;
        }
        if (codes.isFull()) {
            return FULL;
        }
        Grant code = codes.nextRow();
        code.begin(number, client, scopes, time + codeLife, null);
        code.redirect = redirect;
        code.challenge = challenge;
        return OK;
    }

    public int exchange(int code, int redirect, int audience, int number) {
        if (loggedIn == NONE) {
            return LOGIN;
        }
        if (audience < 0 || audience > LAST_AUDIENCE) {
            return NONE;
        }
        Grant grant = codes.findOwned(code, loggedIn);
        if (grant == null) {
            return GRANT;
        }
        if (grant.spent) {
            grant.revokeFamily();
            return GRANT;
        }
        if (!grant.isActive(time) || grant.redirect != redirect || grant.challenge != input.hash()) {
            return GRANT;
        }
        int refusal = refusalOfNewTokens(number);
        if (refusal != OK) {
            return refusal;
        }
        Family family = new Family(grant.scopes, audience);
        grant.spent = true;
        grant.family = family;
        return giveTokens(family, grant.owner, grant.scopes, number);
    }

    public int refresh(int token, int scopes, int number) {
        if (loggedIn == NONE) {
            return LOGIN;
        }
        Grant grant = refreshTokens.findOwned(token, loggedIn);
        if (grant == null) {
            return GRANT;
        }
        if (grant.spent) {
            grant.revokeFamily();
            return GRANT;
        }
        Family family = grant.family;
        if (family == null || !grant.isActive(time)) {
            return GRANT;
        }
        if (scopes < 0 || scopes > ALL_SCOPES || !isWithin(scopes, family.scopes)) {
            return SCOPE;
        }
        int refusal = refusalOfNewTokens(number);
        if (refusal != OK) {
            return refusal;
        }
        grant.spent = true;
        return giveTokens(family, grant.owner, scopes == 0 ? family.scopes : scopes, number);
    }

    public int revoke(int kind, int number) {
        if (loggedIn == NONE) {
            return LOGIN;
        }
        if (kind != REFRESH_KIND && kind != ACCESS_KIND) {
            return NONE;
        }
        int before = activeTokens();
        if (kind == REFRESH_KIND) {
            revokeFamilyOf(refreshTokens.findOwned(number, loggedIn));
        } else {
            revokeAlone(accessTokens.findOwned(number, loggedIn));
        }
        return before - activeTokens();
    }

    public boolean active(int kind, int number) {
        Shelf shelf = shelfOf(kind);
        return shelf != null && shelf.hasActive(number, time);
    }

    public int check(int audience, int scopes) {
        if (!wrapping.hasForm(input)) {
            return FORM;
        }
        if (!wrapping.hasSeal(input)) {
            return FORGED;
        }
        wrapping.unwrapInto(input, plain);
        if (!reader.reads(plain)) {
            return CLAIMS;
        }
        return judgeClaims(audience, scopes);
    }

    public boolean key(char c) {
        return isWritable(c) && input.add(c);
    }

    public boolean alter(int i, char c) {
        return isWritable(c) && input.put(i, c);
    }

    public int take(boolean all) {
        if (all) {
            input.copyFrom(output);
        } else {
            input.clear();
        }
        return input.size();
    }

    public int letter(boolean output, int i) {
        return output ? this.output.codeAt(i) : input.codeAt(i);
    }

    public int challenge() {
        return input.hash();
    }

    public int wrap() {
        if (wrapping.sizeOfWrapped(input) > Text.MOST) {
            return NONE;
        }
        wrapping.wrapInto(input, output);
        return output.size();
    }

    public boolean tick(int n) {
        if (n < 0 || n > MOST_TICKS) {
            return false;
        }
        time += n;
        return true;
    }

    public int sweep() {
        return codes.dropEnded(time) + refreshTokens.dropEnded(time) + accessTokens.dropEnded(time);
    }

    public int count(int kind, boolean active) {
        Shelf shelf = shelfOf(kind);
        if (shelf == null) {
            return NONE;
        }
        return active ? shelf.activeRows(time) : shelf.rows();
    }

    private static int keptLife(int life) {
        return Math.max(1, Math.min(MOST_LIFE, life));
    }

    private static boolean isSomeScopes(int scopes) {
        return scopes >= 1 && scopes <= ALL_SCOPES;
    }

    private static boolean isWithin(int scopes, int allowed) {
        return (scopes & ~allowed) == 0;
    }

    private static boolean isWritable(char c) {
        return c >= 32 && c <= 126;
    }

    private Client clientWith(int number) {
        return number >= 0 && number < clientCount ? clients[number] : null;
    }

    private Shelf shelfOf(int kind) {
        switch (kind) {
            case CODE_KIND:
                return codes;
            case REFRESH_KIND:
                return refreshTokens;
            case ACCESS_KIND:
                return accessTokens;
            default:
                return null;
        }
    }

    private boolean isFree(int number) {
        return number >= 1 && number <= LAST_NUMBER
            && codes.find(number) == null && refreshTokens.find(number) == null;
    }

    private int refusalOfNewTokens(int number) {
        if (!isFree(number)) {
            return TAKEN;
        }
        return refreshTokens.isFull() || accessTokens.isFull() ? FULL : OK;
    }

    /** Only after refusalOfNewTokens answered OK, so that both shelves have room. */
    private int giveTokens(Family family, int owner, int scopes, int number) {
        Grant refreshToken = refreshTokens.nextRow();
        refreshToken.begin(number, owner, family.scopes, time + refreshLife, family);
        accessTokensMade++;
        Grant accessToken = accessTokens.nextRow();
        accessToken.begin(accessTokensMade, owner, scopes, time + accessLife, family);
        writeClaims(accessToken, family.audience);
        wrapping.wrapInto(plain, output);
        return accessToken.number;
    }

    private void writeClaims(Grant token, int audience) {
        plain.clear();
        plain.addText("{\"sub\":");
        plain.addNumber(token.owner);
        plain.addText(",\"aud\":");
        plain.addNumber(audience);
        plain.addText(",\"exp\":");
        plain.addNumber(token.end);
        plain.addText(",\"jti\":");
        plain.addNumber(token.number);
        plain.addText(",\"scope\":");
        plain.addNumber(token.scopes);
        plain.addText("}");
    }

    private int judgeClaims(int audience, int scopes) {
        if (reader.value(ClaimsReader.EXP) <= time) {
            return EXPIRED;
        }
        if (!accessTokens.hasActive(reader.value(ClaimsReader.JTI), time)) {
            return DEAD;
        }
        if (reader.value(ClaimsReader.AUD) != audience) {
            return AUDIENCE;
        }
        if (!isWithin(scopes & ALL_SCOPES, reader.value(ClaimsReader.SCOPES))) {
            return SCOPE;
        }
        return reader.value(ClaimsReader.SUB);
    }

    private int activeTokens() {
        return refreshTokens.activeRows(time) + accessTokens.activeRows(time);
    }

    private static void revokeFamilyOf(Grant token) {
        if (token != null) {
            token.revokeFamily();
        }
    }

    private static void revokeAlone(Grant token) {
        if (token != null) {
            token.revoked = true;
        }
    }

    private static final class Client {
        final int secret;
        final int redirect;
        final int scopes;

        Client(int secret, int redirect, int scopes) {
            this.secret = secret;
            this.redirect = redirect;
            this.scopes = scopes;
        }
    }

    /** All that came from one code: it is taken back as a whole. */
    private static final class Family {
        final int scopes;
        final int audience;
        boolean revoked = false;

        Family(int scopes, int audience) {
            this.scopes = scopes;
            this.audience = audience;
        }
    }

    /** A code, a refresh token or an access token: one row for all, so that ACTIVE is said once. */
    private static final class Grant {
        int number;
        int owner;
        int scopes;
        int end;
        int redirect;
        int challenge;
        boolean spent;
        boolean revoked;
        Family family;

        Grant() {
        }

        /** Takes the marks away too, since the row may have held another grant before a sweep. */
        void begin(int number, int owner, int scopes, int end, Family family) {
            this.number = number;
            this.owner = owner;
            this.scopes = scopes;
            this.end = end;
            this.family = family;
            spent = false;
            revoked = false;
        }

        boolean isActive(int time) {
            return !spent && !revoked && (family == null || !family.revoked) && end > time;
        }

        void revokeFamily() {
            if (family != null) {
                family.revoked = true;
            }
        }
    }

    /** The grants of one kind that are there; its rows are made once and used again. */
    private static final class Shelf {
        private final Grant[] grants;
        private int used = 0;

        Shelf(int most) {
            grants = new Grant[most];
            for (int i = 0; i < most; i++) {
                grants[i] = new Grant();
            }
        }

        int rows() {
            return used;
        }

        boolean isFull() {
            return used >= grants.length;
        }

        /** A full shelf gives its last row again rather than an index that is not there. */
        Grant nextRow() {
            if (!isFull()) {
                used++;
            }
            return grants[used - 1];
        }

        Grant find(int number) {
            for (int i = 0; i < used; i++) {
                if (grants[i].number == number) {
                    return grants[i];
                }
            }
            return null;
        }

        Grant findOwned(int number, int owner) {
            Grant found = find(number);
            return found != null && found.owner == owner ? found : null;
        }

        boolean hasActive(int number, int time) {
            Grant found = find(number);
            return found != null && found.isActive(time);
        }

        int activeRows(int time) {
            int n = 0;
            for (int i = 0; i < used; i++) {
                if (grants[i].isActive(time)) {
                    n++;
                }
            }
            return n;
        }

        int dropEnded(int time) {
            int kept = 0;
            for (int i = 0; i < used; i++) {
                if (grants[i].end > time) {
                    swap(kept, i);
                    kept++;
                }
            }
            int dropped = used - kept;
            used = kept;
            return dropped;
        }

        /** Swapped, not overwritten: every row must stay on the shelf to be used again. */
        private void swap(int i, int j) {
            Grant held = grants[i];
            grants[i] = grants[j];
            grants[j] = held;
        }
    }

    private static final class Text {
        static final int MOST = 120;

        private final char[] chars = new char[MOST];
        private int length = 0;

        Text() {
        }

        int size() {
            return length;
        }

        int codeAt(int i) {
            return i >= 0 && i < length ? chars[i] : NONE;
        }

        void clear() {
            length = 0;
        }

        boolean add(char c) {
            if (length >= MOST) {
                return false;
            }
            chars[length] = c;
            length++;
            return true;
        }

        boolean put(int i, char c) {
            if (i < 0 || i >= length) {
                return false;
            }
            chars[i] = c;
            return true;
        }

        void copyFrom(Text other) {
            System.arraycopy(other.chars, 0, chars, 0, other.length);
            length = other.length;
        }

        void addText(String more) {
            for (int i = 0; i < more.length(); i++) {
                add(more.charAt(i));
            }
        }

        void addNumber(int value) {
            for (int unit = 1000000000; unit > 0; unit /= 10) {
                if (value >= unit || unit == 1) {
                    add((char) ('0' + value / unit % 10));
                }
            }
        }

        int hash() {
            int h = length;
            for (int i = 0; i < length; i++) {
                // The int's wrapping takes away only bits above the lowest 30.
                h = (h * 1000003 + chars[i]) & LAST_CHALLENGE;
            }
            return h;
        }
    }

    /** Turns texts into signs with a seal, and back. */
    private static final class Wrapping {
        private static final String SIGNS =
            "ABCDEFGHIJKLMNOPQRSTUVWXYZabcdefghijklmnopqrstuvwxyz0123456789-_";
        private static final long FACTOR = 0x9E3779B97F4A7C15L;
        private static final int SEAL_SIGNS = 10;
        private static final int TAIL = 1 + SEAL_SIGNS;

        private final int sealKey;

        Wrapping(int sealKey) {
            this.sealKey = sealKey;
        }

        int sizeOfWrapped(Text text) {
            return signsFor(text) + TAIL;
        }

        void wrapInto(Text text, Text target) {
            int signs = signsFor(text);
            target.clear();
            for (int i = 0; i < signs; i++) {
                target.add(SIGNS.charAt(sixBits(text, 6 * i)));
            }
            long seal = sealOf(target, signs);
            target.add('.');
            for (int i = 0; i < SEAL_SIGNS; i++) {
                target.add(sealSign(seal, i));
            }
        }

        boolean hasForm(Text text) {
            int signs = text.size() - TAIL;
            if (signs < 0 || signs % 4 == 1) {
                return false;
            }
            for (int i = 0; i < text.size(); i++) {
                boolean fits = i == signs ? text.codeAt(i) == '.' : signValue(text, i) >= 0;
                if (!fits) {
                    return false;
                }
            }
            int filled = signs * 6 % 8;
            return filled == 0 || (signValue(text, signs - 1) & ((1 << filled) - 1)) == 0;
        }

        /** Only of a text that has the form. */
        boolean hasSeal(Text text) {
            int signs = text.size() - TAIL;
            long seal = sealOf(text, signs);
            for (int i = 0; i < SEAL_SIGNS; i++) {
                if (text.codeAt(signs + 1 + i) != sealSign(seal, i)) {
                    return false;
                }
            }
            return true;
        }

        /** Only of a text that has the form. */
        void unwrapInto(Text text, Text target) {
            int characters = (text.size() - TAIL) * 6 / 8;
            target.clear();
            for (int i = 0; i < characters; i++) {
                target.add((char) eightBits(text, 8 * i));
            }
        }

        private static int signsFor(Text text) {
            return (text.size() * 8 + 5) / 6;
        }

        /** The six bits from a place on, seen through the two characters that they may lie in. */
        private static int sixBits(Text text, int place) {
            int first = text.codeAt(place / 8);
            int second = Math.max(0, text.codeAt(place / 8 + 1));
            return (first << 8 | second) >> (10 - place % 8) & 63;
        }

        /** The eight bits from a place on, seen through the two signs that they lie in. */
        private static int eightBits(Text text, int place) {
            int first = signValue(text, place / 6);
            int second = signValue(text, place / 6 + 1);
            return (first << 6 | second) >> (4 - place % 6) & 255;
        }

        private static int signValue(Text text, int i) {
            return SIGNS.indexOf((char) text.codeAt(i));
        }

        private long sealOf(Text text, int signs) {
            long h = sealKey;
            for (int i = 0; i < signs; i++) {
                h = (h ^ text.codeAt(i)) * FACTOR;
                h = h ^ (h >>> 29);
            }
            return h;
        }

        private static char sealSign(long seal, int i) {
            return SIGNS.charAt((int) (seal >>> (6 * (SEAL_SIGNS - 1 - i))) & 63);
        }
    }

    /** Reads claims, kept apart from what they mean. */
    private static final class ClaimsReader {
        static final int SUB = 0;
        static final int AUD = 1;
        static final int EXP = 2;
        static final int JTI = 3;
        static final int SCOPES = 4;

        private static final int NAMES = 5;
        private static final int MOST_DIGITS = 9;

        private final int[] values = new int[NAMES];
        private final boolean[] seen = new boolean[NAMES];
        private int at = 0;

        ClaimsReader() {
        }

        int value(int name) {
            return name >= 0 && name < NAMES ? values[name] : 0;
        }

        /** Each name once and no other: so there are just as many members as names. */
        boolean reads(Text text) {
            begin();
            for (int i = 0; i < NAMES; i++) {
                if (!readsMark(text, i == 0 ? '{' : ',') || !readsMember(text)) {
                    return false;
                }
            }
            return readsMark(text, '}') && at == text.size();
        }

        private void begin() {
            at = 0;
            for (int i = 0; i < NAMES; i++) {
                seen[i] = false;
            }
        }

        private boolean readsMember(Text text) {
            int name = readName(text);
            if (name < 0 || seen[name] || !readsMark(text, ':')) {
                return false;
            }
            seen[name] = true;
            values[name] = readNumber(text);
            return values[name] >= 0;
        }

        private boolean readsMark(Text text, char mark) {
            skipSpaces(text);
            if (text.codeAt(at) != mark) {
                return false;
            }
            at++;
            skipSpaces(text);
            return true;
        }

        private int readName(Text text) {
            for (int i = 0; i < NAMES; i++) {
                String name = quotedName(i);
                if (standsHere(text, name)) {
                    at += name.length();
                    return i;
                }
            }
            return NONE;
        }

        private boolean standsHere(Text text, String name) {
            for (int i = 0; i < name.length(); i++) {
                if (text.codeAt(at + i) != name.charAt(i)) {
                    return false;
                }
            }
            return true;
        }

        /** A digit too many is left standing: no mark follows then, and the reading fails there. */
        private int readNumber(Text text) {
            if (text.codeAt(at) == '0') {
                at++;
                return 0;
            }
            int value = 0;
            int digits = 0;
            while (digits < MOST_DIGITS && isDigit(text.codeAt(at))) {
                value = value * 10 + text.codeAt(at) - '0';
                at++;
                digits++;
            }
            return digits == 0 ? NONE : value;
        }

        private void skipSpaces(Text text) {
            while (at < text.size() && text.codeAt(at) == ' ') {
                at++;
            }
        }

        private static boolean isDigit(int code) {
            return code >= '0' && code <= '9';
        }

        private static String quotedName(int name) {
            switch (name) {
                case SUB:
                    return "\"sub\"";
                case AUD:
                    return "\"aud\"";
                case EXP:
                    return "\"exp\"";
                case JTI:
                    return "\"jti\"";
                default:
                    return "\"scope\"";
            }
        }
    }
}
