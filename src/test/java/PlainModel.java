import java.math.BigInteger;
import java.nio.charset.StandardCharsets;
import java.util.ArrayList;
import java.util.HashMap;
import java.util.List;
import java.util.Map;
import java.util.regex.Matcher;
import java.util.regex.Pattern;

/**
 * The document written a second time, with other means: maps, regular expressions and big
 * integers, so that a slip in the program is not made here in the same way.
 */
final class PlainModel {
    private static final String SIGNS =
        "ABCDEFGHIJKLMNOPQRSTUVWXYZabcdefghijklmnopqrstuvwxyz0123456789-_";
    private static final Pattern FORM = Pattern.compile("([A-Za-z0-9_-]*)\\.([A-Za-z0-9_-]{10})");
    private static final String MEMBER = " *\"(?:sub|aud|exp|jti|scope)\" *: *(?:0|[1-9][0-9]{0,8}) *";
    private static final Pattern CLAIMS =
        Pattern.compile(" *\\{" + MEMBER + "(?:," + MEMBER + ")*\\} *", Pattern.DOTALL);
    private static final Pattern ONE = Pattern.compile("\"([a-z]+)\" *: *([0-9]+)");

    private static final class Family {
        int scopes;
        int audience;
        boolean revoked;
    }

    private static final class Item {
        int number;
        int owner;
        int scopes;
        int end;
        int redirect;
        int challenge;
        boolean spent;
        boolean revoked;
        Family family;
    }

    private final int key;
    private final int[] lives;
    private final List<int[]> clients = new ArrayList<>();
    private final List<List<Item>> kinds = List.of(new ArrayList<>(), new ArrayList<>(), new ArrayList<>());
    private Integer who = null;
    private int made = 0;
    private int time = 0;
    private String input = "";
    private String output = "";

    PlainModel(int key, int codes, int access, int refresh) {
        this.key = key;
        lives = new int[] {kept(codes), kept(refresh), kept(access)};
    }

    private static int kept(int life) {
        return life < 1 ? 1 : life > 1000 ? 1000 : life;
    }

    int client(int secret, int redirect, int scopes) {
        if (clients.size() == 4 || scopes < 1 || scopes > 15) {
            return -1;
        }
        clients.add(new int[] {secret, redirect, scopes});
        return clients.size() - 1;
    }

    boolean login(int client, int secret) {
        who = null;
        if (client >= 0 && client < clients.size() && clients.get(client)[0] == secret) {
            who = client;
        }
        return who != null;
    }

    int authorize(int client, int redirect, int scopes, int challenge, int number) {
        if (client < 0 || client >= clients.size() || challenge < 0 || challenge >= 1 << 30) {
            return -1;
        }
        if (clients.get(client)[1] != redirect) {
            return -13;
        }
        if (scopes < 1 || scopes > 15 || (scopes | clients.get(client)[2]) != clients.get(client)[2]) {
            return -4;
        }
        if (!free(number)) {
            return -5;
        }
        if (kinds.get(0).size() == 16) {
            return -6;
        }
        Item code = add(0, number, client, scopes, null);
        code.redirect = redirect;
        code.challenge = challenge;
        return 0;
    }

    int exchange(int code, int redirect, int audience, int number) {
        if (who == null) {
            return -2;
        }
        if (audience < 0 || audience > 3) {
            return -1;
        }
        Item item = find(0, code);
        if (item == null || item.owner != who) {
            return -3;
        }
        if (item.spent) {
            item.family.revoked = true;
            return -3;
        }
        if (item.end <= time || item.redirect != redirect || item.challenge != challenge()) {
            return -3;
        }
        if (!free(number)) {
            return -5;
        }
        if (kinds.get(1).size() == 24 || kinds.get(2).size() == 24) {
            return -6;
        }
        item.spent = true;
        item.family = new Family();
        item.family.scopes = item.scopes;
        item.family.audience = audience;
        return give(item.family, item.owner, item.scopes, number);
    }

    int refresh(int token, int scopes, int number) {
        if (who == null) {
            return -2;
        }
        Item item = find(1, token);
        if (item == null || item.owner != who) {
            return -3;
        }
        if (item.spent) {
            item.family.revoked = true;
            return -3;
        }
        if (!isActive(item)) {
            return -3;
        }
        if (scopes < 0 || scopes > 15 || (scopes | item.family.scopes) != item.family.scopes) {
            return -4;
        }
        if (!free(number)) {
            return -5;
        }
        if (kinds.get(1).size() == 24 || kinds.get(2).size() == 24) {
            return -6;
        }
        item.spent = true;
        return give(item.family, item.owner, scopes == 0 ? item.family.scopes : scopes, number);
    }

    int revoke(int kind, int number) {
        if (who == null) {
            return -2;
        }
        if (kind != 1 && kind != 2) {
            return -1;
        }
        Item item = find(kind, number);
        if (item == null || item.owner != who) {
            return 0;
        }
        int before = count(1, true) + count(2, true);
        if (kind == 1) {
            item.family.revoked = true;
        } else {
            item.revoked = true;
        }
        return before - count(1, true) - count(2, true);
    }

    boolean active(int kind, int number) {
        return kind >= 0 && kind <= 2 && find(kind, number) != null && isActive(find(kind, number));
    }

    int check(int audience, int scopes) {
        Matcher form = FORM.matcher(input);
        if (!form.matches() || form.group(1).length() % 4 == 1) {
            return -7;
        }
        StringBuilder bits = new StringBuilder();
        for (char c : form.group(1).toCharArray()) {
            bits.append(Integer.toBinaryString(64 + SIGNS.indexOf(c)).substring(1));
        }
        int whole = bits.length() / 8 * 8;
        if (bits.substring(whole).contains("1")) {
            return -7;
        }
        if (!form.group(2).equals(seal(form.group(1)))) {
            return -8;
        }
        StringBuilder text = new StringBuilder();
        for (int i = 0; i < whole; i += 8) {
            text.append((char) Integer.parseInt(bits.substring(i, i + 8), 2));
        }
        return judge(text.toString(), audience, scopes);
    }

    private int judge(String text, int audience, int scopes) {
        Map<String, Integer> claims = new HashMap<>();
        int members = 0;
        Matcher one = ONE.matcher(text);
        if (CLAIMS.matcher(text).matches()) {
            while (one.find()) {
                members++;
                claims.put(one.group(1), Integer.parseInt(one.group(2)));
            }
        }
        if (members != 5 || claims.size() != 5) {
            return -9;
        }
        if (claims.get("exp") <= time) {
            return -10;
        }
        if (!active(2, claims.get("jti"))) {
            return -11;
        }
        if (claims.get("aud") != audience) {
            return -12;
        }
        for (int scope = 0; scope < 4; scope++) {
            if ((scopes >> scope & 1) > (claims.get("scope") >> scope & 1)) {
                return -4;
            }
        }
        return claims.get("sub");
    }

    boolean key(char c) {
        if (c < 32 || c > 126 || input.length() == 120) {
            return false;
        }
        input += c;
        return true;
    }

    boolean alter(int i, char c) {
        if (i < 0 || i >= input.length() || c < 32 || c > 126) {
            return false;
        }
        input = input.substring(0, i) + c + input.substring(i + 1);
        return true;
    }

    int take(boolean all) {
        input = all ? output : "";
        return input.length();
    }

    int letter(boolean output, int i) {
        String text = output ? this.output : input;
        return i < 0 || i >= text.length() ? -1 : text.charAt(i);
    }

    int challenge() {
        BigInteger h = BigInteger.valueOf(input.length());
        for (char c : input.toCharArray()) {
            h = h.multiply(BigInteger.valueOf(1000003)).add(BigInteger.valueOf(c));
        }
        return h.mod(BigInteger.ONE.shiftLeft(30)).intValue();
    }

    int wrap() {
        String wrapped = wrapped(input);
        if (wrapped.length() > 120) {
            return -1;
        }
        output = wrapped;
        return output.length();
    }

    boolean tick(int n) {
        if (n < 0 || n > 10000) {
            return false;
        }
        time += n;
        return true;
    }

    int sweep() {
        int before = count(0, false) + count(1, false) + count(2, false);
        for (List<Item> items : kinds) {
            items.removeIf(item -> item.end <= time);
        }
        return before - count(0, false) - count(1, false) - count(2, false);
    }

    int count(int kind, boolean active) {
        if (kind < 0 || kind > 2) {
            return -1;
        }
        return (int) kinds.get(kind).stream().filter(item -> !active || isActive(item)).count();
    }

    private boolean free(int number) {
        return number >= 1 && number <= 65535 && find(0, number) == null && find(1, number) == null;
    }

    private Item find(int kind, int number) {
        return kinds.get(kind).stream().filter(item -> item.number == number).findFirst().orElse(null);
    }

    private boolean isActive(Item item) {
        return !item.spent && !item.revoked && !(item.family != null && item.family.revoked)
            && item.end > time;
    }

    private Item add(int kind, int number, int owner, int scopes, Family family) {
        Item item = new Item();
        item.number = number;
        item.owner = owner;
        item.scopes = scopes;
        item.end = time + lives[kind];
        item.family = family;
        kinds.get(kind).add(item);
        return item;
    }

    private int give(Family family, int owner, int scopes, int number) {
        add(1, number, owner, family.scopes, family);
        Item token = add(2, ++made, owner, scopes, family);
        output = wrapped("{\"sub\":" + owner + ",\"aud\":" + family.audience + ",\"exp\":" + token.end
            + ",\"jti\":" + made + ",\"scope\":" + scopes + "}");
        return made;
    }

    private String wrapped(String text) {
        StringBuilder bits = new StringBuilder();
        for (byte b : text.getBytes(StandardCharsets.ISO_8859_1)) {
            bits.append(Integer.toBinaryString(256 + b).substring(1));
        }
        while (bits.length() % 6 != 0) {
            bits.append('0');
        }
        StringBuilder signs = new StringBuilder();
        for (int i = 0; i < bits.length(); i += 6) {
            signs.append(SIGNS.charAt(Integer.parseInt(bits.substring(i, i + 6), 2)));
        }
        return signs + "." + seal(signs.toString());
    }

    private String seal(String text) {
        BigInteger most = BigInteger.ONE.shiftLeft(64);
        BigInteger h = BigInteger.valueOf(key).mod(most);
        for (char c : text.toCharArray()) {
            h = h.xor(BigInteger.valueOf(c)).multiply(new BigInteger("9E3779B97F4A7C15", 16)).mod(most);
            h = h.xor(h.shiftRight(29));
        }
        StringBuilder signs = new StringBuilder();
        for (int shift = 54; shift >= 0; shift -= 6) {
            signs.append(SIGNS.charAt(h.shiftRight(shift).mod(BigInteger.valueOf(64)).intValue()));
        }
        return signs.toString();
    }
}
