import java.nio.charset.StandardCharsets;
import java.util.Base64;

/** Steps that many tests take, and the document's texts made by other means than the program's. */
final class Bench {
    static final int KEY = 7;
    static final int SECRET = 5;
    static final int REDIRECT = 11;

    private static final String SIGNS =
        "ABCDEFGHIJKLMNOPQRSTUVWXYZabcdefghijklmnopqrstuvwxyz0123456789-_";

    private Bench() {
    }

    /** Lives 10, 60 and 600; client 0 with all scopes is logged in. */
    static GrantServer server() {
        GrantServer x = new GrantServer(KEY, 10, 60, 600);
        x.client(SECRET, REDIRECT, 15);
        x.login(0, SECRET);
        return x;
    }

    /** A server where code 100 has been exchanged for refresh token 200 and access token 1, audience 1. */
    static GrantServer exchanged(int scopes) {
        GrantServer x = server();
        x.authorize(0, REDIRECT, scopes, 0, 100);
        x.exchange(100, REDIRECT, 1, 200);
        return x;
    }

    static void type(GrantServer x, String text) {
        x.take(false);
        for (int i = 0; i < text.length(); i++) {
            x.key(text.charAt(i));
        }
    }

    static String text(GrantServer x, boolean output) {
        StringBuilder text = new StringBuilder();
        int code = x.letter(output, 0);
        while (code != GrantServer.NONE) {
            text.append((char) code);
            code = x.letter(output, text.length());
        }
        return text.toString();
    }

    static String claims(int sub, int aud, int exp, int jti, int scope) {
        return String.format("{\"sub\":%d,\"aud\":%d,\"exp\":%d,\"jti\":%d,\"scope\":%d}",
            sub, aud, exp, jti, scope);
    }

    static String wrapped(int key, String text) {
        return sealed(key, Base64.getUrlEncoder().withoutPadding()
            .encodeToString(text.getBytes(StandardCharsets.ISO_8859_1)));
    }

    static String sealed(int key, String signs) {
        return signs + "." + seal(key, signs);
    }

    static String seal(int key, String text) {
        long h = key;
        for (char c : text.toCharArray()) {
            h = (h ^ c) * 0x9E3779B97F4A7C15L;
            h ^= h >>> 29;
        }
        StringBuilder signs = new StringBuilder();
        for (int i = 0; i < 10; i++) {
            signs.insert(0, SIGNS.charAt((int) Long.remainderUnsigned(h, 64)));
            h = Long.divideUnsigned(h, 64);
        }
        return signs.toString();
    }

    static int challengeOf(String text) {
        long h = text.length();
        for (char c : text.toCharArray()) {
            h = (h * 1000003L + c) % (1L << 30);
        }
        return (int) h;
    }
}
