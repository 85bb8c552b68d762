/** Promises 16 (tick) and 17 (sweep). */
public final class TimeTest {
    private static final Due due = new Due("TimeTest");

    public static void main(String[] args) {
        tickIsRefused();
        tickMovesTheTime();
        timeGoesFar();
        sweepTakesWhatHasEnded();
        sweepLeavesSpentAndRevokedOnes();
        sweepKeepsTheRestWhole();
        sweepLeavesTheFamily();
        rowsUsedAgainAreNew();
        due.end();
    }

    private static void tickIsRefused() {
        GrantServer x = Bench.exchanged(1);
        int[] refused = {-1, 10001, Integer.MIN_VALUE, Integer.MAX_VALUE};
        for (int n : refused) {
            due.no("tick " + n, x.tick(n));
        }
        due.yes("nothing has ended", x.active(1, 200) && x.active(2, 1));
        due.is("sweep", x.sweep(), 0);
        x.tick(59);
        due.no("tick -1", x.tick(-1));
        due.yes("access token at 59", x.active(2, 1));
        due.yes("tick 0", x.tick(0));
        due.yes("access token still at 59", x.active(2, 1));
        due.yes("tick 1", x.tick(1));
        due.no("access token at 60", x.active(2, 1));
        due.yes("tick 10000", x.tick(10000));
    }

    private static void tickMovesTheTime() {
        GrantServer x = Bench.server();
        x.tick(10000);
        x.tick(10000);
        x.tick(345);
        x.authorize(0, Bench.REDIRECT, 1, 0, 100);
        x.exchange(100, Bench.REDIRECT, 0, 200);
        due.is("the text tells the end", Bench.text(x, true),
            Bench.wrapped(Bench.KEY, Bench.claims(0, 0, 20405, 1, 1)));
    }

    private static void timeGoesFar() {
        GrantServer x = Bench.server();
        for (int i = 0; i < 300; i++) {
            due.yes("tick", x.tick(10000));
        }
        x.authorize(0, Bench.REDIRECT, 10, 0, 100);
        x.exchange(100, Bench.REDIRECT, 3, 200);
        String wrapped = Bench.wrapped(Bench.KEY, Bench.claims(0, 3, 3000060, 1, 10));
        due.is("the text", Bench.text(x, true), wrapped);
        due.is("take", x.take(true), wrapped.length());
        due.is("check", x.check(3, 10), 0);
    }

    private static void sweepTakesWhatHasEnded() {
        GrantServer x = Bench.exchanged(1);
        x.tick(5);
        x.authorize(0, Bench.REDIRECT, 1, 0, 101);
        due.is("sweep at 5", x.sweep(), 0);
        x.tick(4);
        due.is("sweep at 9", x.sweep(), 0);
        x.tick(1);
        due.is("sweep at 10, a spent code", x.sweep(), 1);
        due.is("sweep again", x.sweep(), 0);
        x.tick(5);
        due.is("sweep at 15, a code", x.sweep(), 1);
        due.is("codes", x.count(0, false), 0);
        x.tick(45);
        due.is("access tokens before", x.count(2, false), 1);
        due.is("sweep at 60, an access token", x.sweep(), 1);
        due.is("access tokens", x.count(2, false), 0);
        x.tick(540);
        due.is("refresh tokens before", x.count(1, false), 1);
        due.is("sweep at 600, a refresh token", x.sweep(), 1);
        due.is("refresh tokens", x.count(1, false), 0);
        GrantServer y = Bench.exchanged(1);
        y.refresh(200, 0, 201);
        y.tick(10000);
        due.is("all at once", y.sweep(), 5);
    }

    private static void sweepLeavesSpentAndRevokedOnes() {
        GrantServer x = Bench.exchanged(1);
        x.refresh(200, 0, 201);
        x.revoke(1, 201);
        due.is("sweep", x.sweep(), 0);
        due.is("codes", x.count(0, false), 1);
        due.is("refresh tokens", x.count(1, false), 2);
        due.is("access tokens", x.count(2, false), 2);
        due.is("active tokens", x.count(1, true) + x.count(2, true), 0);
    }

    private static void sweepKeepsTheRestWhole() {
        GrantServer x = new GrantServer(3, 10, 20, 30);
        x.client(1, 10, 15);
        x.client(2, 20, 15);
        for (int i = 0; i < 16; i++) {
            x.authorize(i % 2, 10 + 10 * (i % 2), 1 + i % 15, 0, 100 + i);
            x.tick(1);
            if (i == 4) {
                x.login(0, 1);
                due.is("exchange in between", x.exchange(104, 10, 2, 900), 1);
            }
        }
        due.is("sweep of seven", x.sweep(), 7);
        for (int i = 0; i < 16; i++) {
            due.is("code " + (100 + i), x.active(0, 100 + i), i >= 7);
        }
        x.login(1, 2);
        due.is("code of another", x.exchange(108, 20, 1, 300), GrantServer.GRANT);
        due.is("code 109", x.exchange(109, 20, 1, 300), 2);
        due.is("its text", Bench.text(x, true), Bench.wrapped(3, Bench.claims(1, 1, 36, 2, 10)));
        x.login(0, 1);
        due.is("code 108", x.exchange(108, 10, 2, 301), 3);
        due.is("its text", Bench.text(x, true), Bench.wrapped(3, Bench.claims(0, 2, 36, 3, 9)));
        due.yes("the token from before", x.active(1, 900));
    }

    private static void sweepLeavesTheFamily() {
        GrantServer x = Bench.exchanged(5);
        x.refresh(200, 0, 201);
        x.tick(10);
        due.is("sweep of the code", x.sweep(), 1);
        due.is("the code is not there", x.exchange(100, Bench.REDIRECT, 1, 300), GrantServer.GRANT);
        due.yes("its tokens live on", x.active(1, 201) && x.active(2, 1) && x.active(2, 2));
        due.is("narrowed by the family's scopes", x.refresh(201, 2, 202), GrantServer.SCOPE);
        due.is("refresh", x.refresh(201, 4, 202), 3);
        due.is("the family's audience", Bench.text(x, true),
            Bench.wrapped(Bench.KEY, Bench.claims(0, 1, 70, 3, 4)));
        due.is("spent", x.refresh(200, 0, 203), GrantServer.GRANT);
        due.is("all revoked", x.count(1, true) + x.count(2, true), 0);
    }

    private static void rowsUsedAgainAreNew() {
        GrantServer x = new GrantServer(3, 5, 5, 5);
        x.client(0, 0, 15);
        x.login(0, 0);
        for (int round = 0; round < 3; round++) {
            due.is("authorize", x.authorize(0, 0, 15, 0, 1), 0);
            due.is("exchange", x.exchange(1, 0, 0, 2), 2 * round + 1);
            due.is("refresh", x.refresh(2, 0, 3), 2 * round + 2);
            due.is("revoke an access token", x.revoke(2, 2 * round + 1), 1);
            due.is("revoke the family", x.revoke(1, 2), 2);
            x.tick(5);
            due.is("sweep", x.sweep(), 5);
        }
    }
}
