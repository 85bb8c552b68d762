/** Promises 1 (a new object), 2 (client) and 3 (login). */
public final class ClientsTest {
    private static final Due due = new Due("ClientsTest");

    public static void main(String[] args) {
        nothingIsThereAtFirst();
        livesAreKeptWithinBounds();
        eachKindHasItsOwnLife();
        keyIsTakenWithItsSign();
        clientsAreNumbered();
        clientsAreRefused();
        scopesAreLookedAtForEveryNumber();
        loginNeedsTheSecret();
        failedLoginLogsOut();
        loginTakesThePlaceOfAnother();
        due.end();
    }

    private static void nothingIsThereAtFirst() {
        GrantServer x = new GrantServer(1, 1, 1, 1);
        for (int kind = 0; kind < 3; kind++) {
            due.is("count of a new object, kind " + kind, x.count(kind, false), 0);
            due.is("active count of a new object, kind " + kind, x.count(kind, true), 0);
        }
        due.is("input of a new object", Bench.text(x, false), "");
        due.is("output of a new object", Bench.text(x, true), "");
        due.no("login without clients", x.login(0, 0));
        due.is("exchange, nobody logged in", x.exchange(1, 0, 0, 2), GrantServer.LOGIN);
        due.is("refresh, nobody logged in", x.refresh(1, 0, 2), GrantServer.LOGIN);
        due.is("revoke, nobody logged in", x.revoke(1, 1), GrantServer.LOGIN);
        due.is("authorize without clients", x.authorize(0, 0, 1, 0, 1), GrantServer.NONE);
        due.is("sweep of a new object", x.sweep(), 0);
    }

    private static void livesAreKeptWithinBounds() {
        lifeIs(Integer.MIN_VALUE, 1);
        lifeIs(-1, 1);
        lifeIs(0, 1);
        lifeIs(1, 1);
        lifeIs(2, 2);
        lifeIs(999, 999);
        lifeIs(1000, 1000);
        lifeIs(1001, 1000);
        lifeIs(Integer.MAX_VALUE, 1000);
    }

    private static void lifeIs(int given, int kept) {
        GrantServer x = new GrantServer(1, given, given, given);
        x.client(0, 0, 1);
        x.login(0, 0);
        x.authorize(0, 0, 1, 0, 1);
        x.exchange(1, 0, 0, 2);
        x.authorize(0, 0, 1, 0, 3);
        x.tick(kept - 1);
        for (int kind = 0; kind < 3; kind++) {
            due.is("life " + given + ", kind " + kind + ", before its end", x.count(kind, true), 1);
        }
        x.tick(1);
        for (int kind = 0; kind < 3; kind++) {
            due.is("life " + given + ", kind " + kind + ", at its end", x.count(kind, true), 0);
        }
    }

    private static void eachKindHasItsOwnLife() {
        GrantServer x = new GrantServer(1, 2, 4, 6);
        x.client(0, 0, 1);
        x.login(0, 0);
        x.authorize(0, 0, 1, 0, 1);
        x.exchange(1, 0, 0, 2);
        x.authorize(0, 0, 1, 0, 3);
        int[] ends = {2, 6, 4};
        for (int time = 0; time < 8; time++) {
            for (int kind = 0; kind < 3; kind++) {
                due.is("lives 2, 4, 6: active of kind " + kind + " at " + time,
                    x.count(kind, true), time < ends[kind] ? 1 : 0);
            }
            x.tick(1);
        }
    }

    private static void keyIsTakenWithItsSign() {
        int[] keys = {0, 1, -1, 99, -3, Integer.MAX_VALUE, Integer.MIN_VALUE};
        for (int key : keys) {
            GrantServer x = new GrantServer(key, 1, 1, 1);
            x.wrap();
            due.is("wrapped nothing, key " + key, Bench.text(x, true), Bench.wrapped(key, ""));
            Bench.type(x, "some text");
            x.wrap();
            due.is("wrapped text, key " + key, Bench.text(x, true), Bench.wrapped(key, "some text"));
        }
    }

    private static void clientsAreNumbered() {
        GrantServer x = new GrantServer(1, 1, 1, 1);
        for (int i = 0; i < 4; i++) {
            due.is("client " + i, x.client(i, 10 + i, 1), i);
        }
        due.is("fifth client", x.client(4, 14, 1), GrantServer.NONE);
        due.no("login of the fifth", x.login(4, 4));
        for (int i = 0; i < 4; i++) {
            due.yes("login " + i, x.login(i, i));
            due.is("redirect of another, client " + i,
                x.authorize(i, 10 + (i + 1) % 4, 1, 0, 50 + i), GrantServer.REDIRECT);
            due.is("redirect of its own, client " + i, x.authorize(i, 10 + i, 1, 0, 50 + i), 0);
        }
    }

    private static void clientsAreRefused() {
        int[] wrong = {0, 16, -1, 17, 31, Integer.MIN_VALUE, Integer.MAX_VALUE};
        for (int scopes : wrong) {
            GrantServer x = new GrantServer(1, 1, 1, 1);
            due.is("client with scopes " + scopes, x.client(1, 1, scopes), GrantServer.NONE);
            due.no("login of a refused client", x.login(0, 1));
            due.is("client after a refused one", x.client(2, 2, 15), 0);
        }
    }

    private static void scopesAreLookedAtForEveryNumber() {
        for (int scopes = 1; scopes <= 15; scopes++) {
            GrantServer x = new GrantServer(1, 1, 1, 1);
            due.is("client with scopes " + scopes, x.client(-1, -2, scopes), 0);
            due.yes("login with a secret below 0", x.login(0, -1));
            due.is("authorize all its scopes", x.authorize(0, -2, scopes, 0, 1), 0);
        }
    }

    private static void loginNeedsTheSecret() {
        GrantServer x = Bench.server();
        due.yes("login again", x.login(0, Bench.SECRET));
        due.no("login with another secret", x.login(0, Bench.SECRET + 1));
        due.no("login of client -1", x.login(-1, 0));
        due.no("login of client -1 with the secret of 0", x.login(-1, Bench.SECRET));
        due.no("login of client 1", x.login(1, 0));
        due.no("login of client 4", x.login(4, 0));
        due.no("login of the least client", x.login(Integer.MIN_VALUE, 0));
        due.no("login of the greatest client", x.login(Integer.MAX_VALUE, 0));
    }

    private static void failedLoginLogsOut() {
        int[][] failing = {{0, Bench.SECRET + 1}, {1, Bench.SECRET}, {-1, Bench.SECRET}, {4, 0}};
        for (int[] login : failing) {
            GrantServer x = Bench.server();
            due.is("revoke while logged in", x.revoke(1, 1), 0);
            due.no("login(" + login[0] + ", " + login[1] + ")", x.login(login[0], login[1]));
            due.is("revoke after a failed login", x.revoke(1, 1), GrantServer.LOGIN);
            due.is("exchange after a failed login", x.exchange(1, 1, 1, 1), GrantServer.LOGIN);
            due.is("refresh after a failed login", x.refresh(1, 1, 1), GrantServer.LOGIN);
        }
    }

    private static void loginTakesThePlaceOfAnother() {
        GrantServer x = Bench.server();
        x.client(6, 12, 15);
        x.authorize(0, Bench.REDIRECT, 1, 0, 100);
        x.authorize(1, 12, 1, 0, 101);
        due.yes("login of client 1", x.login(1, 6));
        due.is("code of client 0", x.exchange(100, Bench.REDIRECT, 0, 200), GrantServer.GRANT);
        due.is("code of client 1", x.exchange(101, 12, 0, 200), 1);
        due.yes("login of client 0", x.login(0, Bench.SECRET));
        due.is("code of client 0 by itself", x.exchange(100, Bench.REDIRECT, 0, 201), 2);
    }
}
