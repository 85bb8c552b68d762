import java.util.ArrayList;
import java.util.List;
import java.util.function.Function;
import java.util.function.Supplier;
import java.util.function.ToLongFunction;

/**
 * "A refused call changes nothing but what is said", of promises 2 to 7, 10, 11, 15 and 16; and that
 * calls which only look (8, 9, 13, 14, 18) change nothing. A server that had the call is held against
 * a twin that had none, or that had what is said done to it in another way, by all that later calls
 * can tell of them.
 */
public final class RefusedCallsTest {
    private static final Due due = new Due("RefusedCallsTest");
    private static final List<Function<GrantServer, String>> QUESTIONS = List.of(
        RefusedCallsTest::whatIsThere, RefusedCallsTest::whatIsInTheTexts,
        RefusedCallsTest::whoIsLoggedIn, RefusedCallsTest::whenThingsEnd,
        RefusedCallsTest::whatCodesAndTokensGive, RefusedCallsTest::whatClientsMay);

    public static void main(String[] args) {
        scenesAreWhatTheySay();
        refusedClient();
        refusedLogin();
        refusedAuthorize();
        refusedExchange();
        refusedExchangeOfASpentCode();
        refusedRefresh();
        refusedRefreshOfASpentToken();
        refusedRevoke();
        refusedKeyAndAlter();
        refusedWrap();
        refusedTick();
        callsThatOnlyLook();
        due.end();
    }

    private static void scenesAreWhatTheySay() {
        due.is("busy", shares(Scene.busy()), "7 3 | 5 3 | 5 4");
        due.is("codes ended", shares(Scene.codesEnded()), "7 2 | 5 3 | 5 4");
        due.is("refresh tokens ended", shares(Scene.refreshTokensEnded()), "7 0 | 5 1 | 5 4");
        due.is("codes full", shares(Scene.codesFull()), "16 12 | 5 3 | 5 4");
        due.is("tokens full", shares(Scene.tokensFull()), "7 3 | 24 3 | 24 23");
    }

    private static String shares(GrantServer x) {
        StringBuilder told = new StringBuilder();
        for (int kind = 0; kind < 3; kind++) {
            told.append(kind == 0 ? "" : " | ");
            told.append(x.count(kind, false)).append(" ").append(x.count(kind, true));
        }
        return told.toString();
    }

    private static void refusedClient() {
        for (int scopes : new int[] {0, 16, -1}) {
            changesNothing("client with scopes " + scopes, Scene::busy, x -> x.client(9, 19, scopes),
                GrantServer.NONE);
            changesNothing("fifth client with scopes " + scopes, Scene::fourClients,
                x -> x.client(9, 19, scopes), GrantServer.NONE);
        }
        changesNothing("fifth client", Scene::fourClients, x -> x.client(9, 19, 15), GrantServer.NONE);
    }

    /** What is said: nobody is logged in then. All ways to fail do the same, and nothing else. */
    private static void refusedLogin() {
        int[][] failing = {{0, 6}, {0, 4}, {1, 5}, {2, 5}, {4, 5}, {-1, 5}};
        for (int[] login : failing) {
            String told = "login(" + login[0] + ", " + login[1] + ")";
            asIf(told, Scene::busy, x -> x.login(login[0], login[1]) ? 1 : 0, 0,
                Scene::nobodyLoggedIn);
            GrantServer x = Scene.busy();
            x.login(login[0], login[1]);
            due.is(told + ": what is there", whatIsThere(x), whatIsThere(Scene.busy()));
            due.is(told + ": exchange", x.exchange(101, 11, 1, 300), GrantServer.LOGIN);
            due.is(told + ": refresh", x.refresh(201, 0, 300), GrantServer.LOGIN);
            due.is(told + ": revoke", x.revoke(1, 201), GrantServer.LOGIN);
        }
        GrantServer y = Scene.busy();
        y.login(0, 6);
        y.login(0, 5);
        due.is("logged in again: what is there", whatIsThere(y), whatIsThere(Scene.busy()));
        due.is("logged in again: what it gives", whatCodesAndTokensGive(y),
            whatCodesAndTokensGive(Scene.busy()));
    }

    private static void refusedAuthorize() {
        for (int client : new int[] {-1, 2, 4}) {
            changesNothing("authorize client " + client, Scene::busy,
                x -> x.authorize(client, 11, 1, 0, 300), GrantServer.NONE);
        }
        for (int challenge : new int[] {-1, 1 << 30}) {
            changesNothing("authorize with challenge " + challenge, Scene::busy,
                x -> x.authorize(0, 11, 1, challenge, 300), GrantServer.NONE);
        }
        changesNothing("authorize with another's redirect", Scene::busy,
            x -> x.authorize(0, 12, 1, 0, 300), GrantServer.REDIRECT);
        for (int scopes : new int[] {-1, 0, 8, 15, 16}) {
            changesNothing("authorize scopes " + scopes + " of 7", Scene::busy,
                x -> x.authorize(0, 11, scopes, 0, 300), GrantServer.SCOPE);
        }
        for (int number : new int[] {-1, 0, 65536, 100, 101, 111, 130, 200, 201, 220}) {
            changesNothing("authorize number " + number, Scene::busy,
                x -> x.authorize(0, 11, 1, 0, number), GrantServer.TAKEN);
        }
        changesNothing("authorize the number of an ended code", Scene::codesEnded,
            x -> x.authorize(0, 11, 1, 0, 130), GrantServer.TAKEN);
        changesNothing("authorize code 17", Scene::codesFull, x -> x.authorize(0, 11, 1, 0, 300),
            GrantServer.FULL);
    }

    private static void refusedExchange() {
        changesNothing("exchange, nobody logged in", Scene::nobodyLoggedIn,
            x -> x.exchange(101, 11, 1, 300), GrantServer.LOGIN);
        changesNothing("exchange of a spent code, nobody logged in", Scene::nobodyLoggedIn,
            x -> x.exchange(100, 11, 1, 300), GrantServer.LOGIN);
        for (int audience : new int[] {-1, 4}) {
            changesNothing("exchange with audience " + audience, Scene::busy,
                x -> x.exchange(101, 11, audience, 300), GrantServer.NONE);
            changesNothing("exchange of a spent code with audience " + audience, Scene::busy,
                x -> x.exchange(100, 11, audience, 300), GrantServer.NONE);
        }
        for (int code : new int[] {-1, 0, 1, 99, 111, 110, 201}) {
            changesNothing("exchange of " + code, Scene::busy, x -> x.exchange(code, 12, 1, 300),
                GrantServer.GRANT);
        }
        changesNothing("exchange of an ended code", Scene::codesEnded, x -> {
            x.take(false);
            return x.exchange(130, 11, 1, 300) + typed(x, "ab");
        }, GrantServer.GRANT);
        changesNothing("exchange with another's redirect", Scene::busy, x -> x.exchange(101, 12, 1, 300),
            GrantServer.GRANT);
        changesNothing("exchange with another challenge", Scene::busy, x -> {
            x.key('c');
            return x.exchange(101, 11, 1, 300) + typed(x, "ab");
        }, GrantServer.GRANT);
        for (int number : new int[] {-1, 0, 65536, 101, 111, 100, 200, 201}) {
            changesNothing("exchange for number " + number, Scene::busy,
                x -> x.exchange(101, 11, 1, number), GrantServer.TAKEN);
        }
        changesNothing("exchange for token 25", Scene::tokensFull, x -> x.exchange(101, 11, 1, 300),
            GrantServer.FULL);
    }

    /** Sets the input back to what the twin has. */
    private static int typed(GrantServer x, String text) {
        Bench.type(x, text);
        return 0;
    }

    /** What is said: its family becomes revoked then, just as revoke of kind 1 does it. */
    private static void refusedExchangeOfASpentCode() {
        int[][] rest = {{11, 1, 300}, {12, 1, 300}, {11, 0, 0}, {11, 3, 201}, {0, 2, 65536}};
        for (int[] r : rest) {
            asIf("exchange of a spent code, redirect " + r[0] + ", number " + r[2], Scene::busy,
                x -> x.exchange(100, r[0], r[1], r[2]), GrantServer.GRANT, () -> revoked(Scene.busy(), 201));
        }
        asIf("exchange of a spent and ended code", Scene::codesEnded,
            x -> x.exchange(100, 11, 1, 300), GrantServer.GRANT, () -> revoked(Scene.codesEnded(), 201));
        asIf("exchange of a spent code, tokens full", Scene::tokensFull,
            x -> x.exchange(100, 11, 1, 300), GrantServer.GRANT, () -> revoked(Scene.tokensFull(), 1019));
        asIf("exchange of a spent code twice", Scene::busy,
            x -> x.exchange(100, 11, 1, 300) + x.exchange(100, 11, 1, 300), 2 * GrantServer.GRANT,
            () -> revoked(Scene.busy(), 201));
        changesNothing("exchange of a spent code, its family revoked before", Scene::busy,
            x -> x.exchange(120, 11, 1, 300), GrantServer.GRANT);
    }

    private static GrantServer revoked(GrantServer x, int refreshToken) {
        x.revoke(1, refreshToken);
        return x;
    }

    private static void refusedRefresh() {
        for (int token : new int[] {201, 200, 210}) {
            changesNothing("refresh of " + token + ", nobody logged in", Scene::nobodyLoggedIn,
                x -> x.refresh(token, 0, 300), GrantServer.LOGIN);
        }
        for (int token : new int[] {-1, 0, 1, 5, 99, 101, 210}) {
            changesNothing("refresh of " + token, Scene::busy, x -> x.refresh(token, 0, 300),
                GrantServer.GRANT);
        }
        changesNothing("refresh of a revoked one", Scene::busy, x -> x.refresh(220, 0, 300),
            GrantServer.GRANT);
        changesNothing("refresh of an ended one", Scene::refreshTokensEnded, x -> x.refresh(240, 0, 300),
            GrantServer.GRANT);
        for (int scopes : new int[] {-1, 8, 15, 16}) {
            changesNothing("refresh for scopes " + scopes + " of 7", Scene::busy,
                x -> x.refresh(201, scopes, 300), GrantServer.SCOPE);
        }
        for (int number : new int[] {-1, 0, 65536, 100, 101, 200, 201, 210}) {
            changesNothing("refresh for number " + number, Scene::busy, x -> x.refresh(201, 0, number),
                GrantServer.TAKEN);
        }
        changesNothing("refresh for token 25", Scene::tokensFull, x -> x.refresh(1019, 0, 300),
            GrantServer.FULL);
        changesNothing("refresh of another's spent one", RefusedCallsTest::clientOneLoggedIn,
            x -> x.refresh(200, 0, 300), GrantServer.GRANT);
        changesNothing("exchange of another's spent code", RefusedCallsTest::clientOneLoggedIn,
            x -> x.exchange(100, 11, 1, 300), GrantServer.GRANT);
    }

    private static GrantServer clientOneLoggedIn() {
        GrantServer x = Scene.busy();
        x.login(1, 6);
        return x;
    }

    /** What is said: its family becomes revoked then, just as revoke of kind 1 does it. */
    private static void refusedRefreshOfASpentToken() {
        int[][] rest = {{0, 300}, {16, 300}, {0, 0}, {7, 201}, {-1, 65536}};
        for (int[] r : rest) {
            asIf("refresh of a spent one for scopes " + r[0] + ", number " + r[1], Scene::busy,
                x -> x.refresh(200, r[0], r[1]), GrantServer.GRANT, () -> revoked(Scene.busy(), 201));
        }
        asIf("refresh of a spent and ended one", Scene::refreshTokensEnded,
            x -> x.refresh(200, 0, 300), GrantServer.GRANT, () -> revoked(Scene.refreshTokensEnded(), 201));
        asIf("refresh of a spent one, tokens full", Scene::tokensFull,
            x -> x.refresh(1007, 0, 300), GrantServer.GRANT, () -> revoked(Scene.tokensFull(), 1019));
        asIf("refresh of a spent one twice", Scene::busy,
            x -> x.refresh(200, 0, 300) + x.refresh(200, 0, 300), 2 * GrantServer.GRANT,
            () -> revoked(Scene.busy(), 201));
    }

    private static void refusedRevoke() {
        for (int kind : new int[] {1, 2, 0, 3, -1}) {
            changesNothing("revoke of kind " + kind + ", nobody logged in", Scene::nobodyLoggedIn,
                x -> x.revoke(kind, kind == 2 ? 5 : 201), GrantServer.LOGIN);
        }
        for (int kind : new int[] {-1, 0, 3}) {
            for (int number : new int[] {5, 101, 201}) {
                changesNothing("revoke of kind " + kind + ", number " + number, Scene::busy,
                    x -> x.revoke(kind, number), GrantServer.NONE);
            }
        }
        for (int number : new int[] {-1, 0, 2, 99, 101, 210, 65536}) {
            changesNothing("revoke of kind 1, number " + number, Scene::busy, x -> x.revoke(1, number), 0);
        }
        for (int number : new int[] {-1, 0, 1, 6, 101, 201}) {
            changesNothing("revoke of kind 2, number " + number, Scene::busy, x -> x.revoke(2, number), 0);
        }
        changesNothing("revoke of a revoked family", Scene::busy, x -> x.revoke(1, 220), 0);
        changesNothing("revoke of an access token of a revoked family", Scene::busy, x -> x.revoke(2, 3), 0);
    }

    private static void refusedKeyAndAlter() {
        for (int code : new int[] {0, 31, 127, 255, 256 + 'a', 65535}) {
            changesNothing("key " + code, Scene::busy, x -> x.key((char) code) ? 1 : 0, 0);
            changesNothing("alter to " + code, Scene::busy, x -> x.alter(1, (char) code) ? 1 : 0, 0);
        }
        changesNothing("key 121", Scene::inputFull, x -> x.key('a') ? 1 : 0, 0);
        for (int place : new int[] {-1, 2, 3, 120, Integer.MIN_VALUE, Integer.MAX_VALUE}) {
            changesNothing("alter at " + place, Scene::busy, x -> x.alter(place, 'c') ? 1 : 0, 0);
        }
        changesNothing("alter at 120 of 120", Scene::inputFull, x -> x.alter(120, 'c') ? 1 : 0, 0);
        changesNothing("alter at -1 of 120", Scene::inputFull, x -> x.alter(-1, 'c') ? 1 : 0, 0);
    }

    private static void refusedWrap() {
        changesNothing("wrap of 82", Scene::inputTooLongToWrap, x -> x.wrap(), GrantServer.NONE);
        changesNothing("wrap of 120", Scene::inputFull, x -> x.wrap(), GrantServer.NONE);
    }

    private static void refusedTick() {
        for (int n : new int[] {-1, 10001, Integer.MIN_VALUE, Integer.MAX_VALUE}) {
            changesNothing("tick " + n, Scene::busy, x -> x.tick(n) ? 1 : 0, 0);
        }
    }

    private static void callsThatOnlyLook() {
        for (int kind = -1; kind <= 3; kind++) {
            int of = kind;
            changesNothing("active of kind " + kind, Scene::busy, x -> x.active(of, 999) ? 1 : 0, 0);
            due.is("count of kind " + kind + " twice", Scene.busy().count(of, true),
                counted(Scene.busy(), of));
        }
        changesNothing("check of what is none", Scene::busy, x -> x.check(1, 1), GrantServer.FORM);
        changesNothing("challenge", Scene::busy, x -> x.challenge(), Bench.challengeOf("ab"));
        changesNothing("letter of the input", Scene::busy, x -> x.letter(false, 1), 'b');
        changesNothing("letter of the output", Scene::busy, x -> x.letter(true, 0), 'e');
        changesNothing("letter of none", Scene::busy, x -> x.letter(false, 2), GrantServer.NONE);
        changesNothing("check of a good text", RefusedCallsTest::outputTaken, x -> x.check(1, 5), 0);
        changesNothing("check of another audience", RefusedCallsTest::outputTaken, x -> x.check(2, 5),
            GrantServer.AUDIENCE);
        changesNothing("tick 0", Scene::busy, x -> x.tick(0) ? 1 : 0, 1);
        changesNothing("sweep of what has not ended", Scene::busy, x -> x.sweep(), 0);
        changesNothing("take of the output again", RefusedCallsTest::outputTaken, x -> x.take(true),
            Bench.text(Scene.busy(), true).length());
    }

    private static int counted(GrantServer x, int kind) {
        x.count(kind, true);
        x.count(kind, false);
        return x.count(kind, true);
    }

    private static GrantServer outputTaken() {
        GrantServer x = Scene.busy();
        x.take(true);
        return x;
    }

    private static void changesNothing(String told, Supplier<GrantServer> scene,
            ToLongFunction<GrantServer> call, long answer) {
        asIf(told, scene, call, answer, scene);
    }

    /** The call's answer, and that all questions find its server as they find the twin. */
    private static void asIf(String told, Supplier<GrantServer> scene,
            ToLongFunction<GrantServer> call, long answer, Supplier<GrantServer> twin) {
        due.is(told, call.applyAsLong(scene.get()), answer);
        for (int i = 0; i < QUESTIONS.size(); i++) {
            GrantServer x = scene.get();
            call.applyAsLong(x);
            due.is("after " + told + ", question " + i, QUESTIONS.get(i).apply(x),
                QUESTIONS.get(i).apply(twin.get()));
        }
    }

    private static String whatIsThere(GrantServer x) {
        List<Object> told = new ArrayList<>();
        told.add(shares(x));
        for (int number : Scene.NUMBERS) {
            told.add(number + (x.active(0, number) ? "code" : "") + (x.active(1, number) ? "token" : ""));
        }
        for (int number = 0; number <= 30; number++) {
            told.add(x.active(2, number) ? number : "-");
        }
        for (int number = 1000; number <= 1020; number++) {
            told.add((x.active(0, number) ? "code" : "") + (x.active(1, number) ? "token" : ""));
        }
        told.add(x.active(0, 300) || x.active(1, 300));
        return told.toString();
    }

    private static String whatIsInTheTexts(GrantServer x) {
        List<Object> told = new ArrayList<>();
        told.add(Bench.text(x, false));
        told.add(Bench.text(x, true));
        told.add(x.challenge());
        told.add(x.check(1, 1));
        told.add(x.take(true));
        told.add(x.check(1, 5));
        told.add(x.check(1, 2));
        told.add(x.check(0, 0));
        return told.toString();
    }

    private static String whoIsLoggedIn(GrantServer x) {
        List<Object> told = new ArrayList<>();
        told.add(x.revoke(2, 1));
        told.add(x.revoke(2, 2));
        told.add(x.revoke(1, 210));
        told.add(x.revoke(1, 240));
        told.add(x.revoke(1, 220));
        told.add(x.revoke(1, 200));
        told.add(x.revoke(1, 1019));
        told.add(shares(x));
        return told.toString();
    }

    private static String whenThingsEnd(GrantServer x) {
        List<Object> told = new ArrayList<>();
        for (int tick = 0; tick < Scene.ACCESS_LIFE + 4; tick++) {
            told.add(x.count(2, true));
            told.add(x.sweep());
            x.tick(1);
        }
        return told.toString();
    }

    private static String whatCodesAndTokensGive(GrantServer x) {
        List<Object> told = new ArrayList<>();
        told.add(x.refresh(240, 0, 300));
        told.add(x.exchange(101, 11, 3, 301));
        told.add(Bench.text(x, true));
        told.add(x.refresh(201, 4, 302));
        told.add(x.refresh(302, 2, 303));
        told.add(Bench.text(x, true));
        x.take(false);
        told.add(x.exchange(130, 11, 2, 304));
        x.login(1, 6);
        told.add(x.exchange(111, 12, 3, 305));
        told.add(x.refresh(210, 0, 306));
        told.add(Bench.text(x, true));
        told.add(shares(x));
        return told.toString();
    }

    private static String whatClientsMay(GrantServer x) {
        List<Object> told = new ArrayList<>();
        told.add(x.client(9, 19, 3));
        for (int client = 0; client < 5; client++) {
            for (int secret = 5; secret <= 9; secret++) {
                told.add(x.login(client, secret));
            }
            for (int redirect : new int[] {11, 12, 13, 14, 19}) {
                for (int scopes : new int[] {1, 2, 4, 8}) {
                    told.add(x.authorize(client, redirect, scopes, 0, 400 + 20 * client + scopes));
                }
            }
        }
        told.add(shares(x));
        return told.toString();
    }
}
