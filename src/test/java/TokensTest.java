/** Promises 6 (refresh), 7 (revoke), 8 (active) and 18 (count). */
public final class TokensTest {
    private static final Due due = new Due("TokensTest");

    public static void main(String[] args) {
        refreshGivesNewTokens();
        refreshNarrowsOnlyTheAccessToken();
        refreshIsRefused();
        refreshRefusesInOrder();
        refreshHoldsToTheEnd();
        spentTokenRevokesItsFamily();
        spentTokenRevokesEvenWhenEnded();
        spentTokenOfAnotherRevokesNothing();
        inactiveTokenRevokesNothing();
        refusedRefreshChangesNothing();
        revokeTakesTheFamilyBack();
        revokeBySpentToken();
        revokeTakesOneAccessTokenBack();
        revokeIsRefused();
        revokeCountsOnlyWhatWasActive();
        revokedFamilyGivesNothing();
        activeLooksAtTheKind();
        countLooksAtTheKind();
        accessTokensAreNumberedForGood();
        due.end();
    }

    private static void refreshGivesNewTokens() {
        GrantServer x = Bench.exchanged(5);
        x.tick(7);
        Bench.type(x, "typed");
        due.is("refresh", x.refresh(200, 0, 201), 2);
        due.is("its text", Bench.text(x, true),
            Bench.wrapped(Bench.KEY, Bench.claims(0, 1, 67, 2, 5)));
        due.is("the input stays", Bench.text(x, false), "typed");
        due.no("the old refresh token", x.active(1, 200));
        due.yes("the new refresh token", x.active(1, 201));
        due.yes("the old access token", x.active(2, 1));
        due.yes("the new access token", x.active(2, 2));
        due.is("refresh tokens", x.count(1, false), 2);
        due.is("access tokens", x.count(2, false), 2);
        x.tick(595);
        due.yes("the new one's life begins anew", x.active(1, 201));
        due.is("refresh late", x.refresh(201, 0, 202), 3);
    }

    private static void refreshNarrowsOnlyTheAccessToken() {
        GrantServer x = Bench.exchanged(7);
        due.is("refresh for 2 of 7", x.refresh(200, 2, 201), 2);
        due.is("its text", Bench.text(x, true),
            Bench.wrapped(Bench.KEY, Bench.claims(0, 1, 60, 2, 2)));
        due.is("refresh for 5 after 2", x.refresh(201, 5, 202), 3);
        due.is("its text", Bench.text(x, true),
            Bench.wrapped(Bench.KEY, Bench.claims(0, 1, 60, 3, 5)));
        due.is("refresh for all after 5", x.refresh(202, 0, 203), 4);
        due.is("its text", Bench.text(x, true),
            Bench.wrapped(Bench.KEY, Bench.claims(0, 1, 60, 4, 7)));
    }

    private static void refreshIsRefused() {
        GrantServer x = Bench.exchanged(5);
        due.is("no such token", x.refresh(201, 0, 202), GrantServer.GRANT);
        due.is("a code is no refresh token", x.refresh(100, 0, 202), GrantServer.GRANT);
        due.is("an access token is none", x.refresh(1, 0, 202), GrantServer.GRANT);
        due.is("token 0", x.refresh(0, 0, 202), GrantServer.GRANT);
        int[] wrongScopes = {-1, 16, 17, 2, 3, 8, 15, Integer.MIN_VALUE, Integer.MAX_VALUE};
        for (int scopes : wrongScopes) {
            due.is("scopes " + scopes + " of 5", x.refresh(200, scopes, 202), GrantServer.SCOPE);
        }
        int[] wrongNumbers = {0, -1, 65536, 100, 200};
        for (int number : wrongNumbers) {
            due.is("number " + number, x.refresh(200, 0, number), GrantServer.TAKEN);
        }
        due.is("number 65535", x.refresh(200, 5, 65535), 2);
        due.is("number 1", x.refresh(65535, 1, 1), 3);
        due.is("scopes 15 of 15", Bench.exchanged(15).refresh(200, 15, 201), 2);
        due.is("scopes 16 of 15", Bench.exchanged(15).refresh(200, 16, 201), GrantServer.SCOPE);
    }

    private static void refreshRefusesInOrder() {
        GrantServer x = Bench.exchanged(5);
        due.is("no such token, wrong scopes", x.refresh(201, 16, 0), GrantServer.GRANT);
        due.is("wrong scopes, wrong number", x.refresh(200, 2, 0), GrantServer.SCOPE);
        x.refresh(200, 0, 201);
        x.login(0, -1);
        due.is("spent, nobody logged in", x.refresh(200, 0, 202), GrantServer.LOGIN);
        due.yes("a refusal before that revokes nothing", x.active(1, 201));
        x.login(0, Bench.SECRET);
        due.is("spent, all else wrong", x.refresh(200, 16, 0), GrantServer.GRANT);
        due.no("but this one does", x.active(1, 201));
    }

    private static void refreshHoldsToTheEnd() {
        GrantServer x = Bench.exchanged(5);
        x.tick(599);
        due.is("one tick before the end", x.refresh(200, 0, 201), 2);
        GrantServer y = Bench.exchanged(5);
        y.tick(600);
        due.is("at the end", y.refresh(200, 0, 201), GrantServer.GRANT);
        due.is("at the end, wrong scopes", y.refresh(200, 2, 201), GrantServer.GRANT);
        y.sweep();
        due.is("swept", y.refresh(200, 0, 201), GrantServer.GRANT);
    }

    private static void spentTokenRevokesItsFamily() {
        GrantServer x = Bench.exchanged(5);
        x.authorize(0, Bench.REDIRECT, 1, 0, 101);
        x.exchange(101, Bench.REDIRECT, 2, 300);
        x.refresh(200, 0, 201);
        x.refresh(201, 0, 202);
        String before = Bench.text(x, true);
        due.is("spent", x.refresh(200, 0, 203), GrantServer.GRANT);
        due.no("the last refresh token", x.active(1, 202));
        due.is("active refresh tokens", x.count(1, true), 1);
        due.is("active access tokens", x.count(2, true), 1);
        due.yes("refresh token of another family", x.active(1, 300));
        due.yes("access token of another family", x.active(2, 2));
        due.is("the output stays", Bench.text(x, true), before);
        due.is("tokens stay there", x.count(1, false), 4);
    }

    private static void spentTokenRevokesEvenWhenEnded() {
        GrantServer x = Bench.exchanged(5);
        x.tick(300);
        x.refresh(200, 0, 201);
        x.tick(300);
        due.yes("the next token", x.active(1, 201));
        due.is("spent and ended", x.refresh(200, 0, 202), GrantServer.GRANT);
        due.no("the next token then", x.active(1, 201));
    }

    private static void spentTokenOfAnotherRevokesNothing() {
        GrantServer x = Bench.exchanged(5);
        x.client(6, 12, 15);
        x.login(1, 6);
        due.is("token of another", x.refresh(200, 0, 201), GrantServer.GRANT);
        x.login(0, Bench.SECRET);
        due.is("token of its own", x.refresh(200, 0, 201), 2);
        x.login(1, 6);
        due.is("spent token of another", x.refresh(200, 0, 202), GrantServer.GRANT);
        due.yes("the next token", x.active(1, 201));
    }

    private static void inactiveTokenRevokesNothing() {
        GrantServer x = new GrantServer(1, 10, 60, 5);
        x.client(0, 0, 1);
        x.login(0, 0);
        x.authorize(0, 0, 1, 0, 100);
        x.exchange(100, 0, 0, 200);
        x.tick(5);
        due.is("ended", x.refresh(200, 0, 201), GrantServer.GRANT);
        due.yes("the access token lives on", x.active(2, 1));
    }

    private static void refusedRefreshChangesNothing() {
        GrantServer x = Bench.exchanged(5);
        String before = Bench.text(x, true);
        x.refresh(200, 2, 201);
        x.refresh(200, 0, 100);
        x.refresh(199, 0, 201);
        due.is("output", Bench.text(x, true), before);
        due.yes("the refresh token", x.active(1, 200));
        due.is("refresh tokens", x.count(1, false), 1);
        due.is("access tokens", x.count(2, false), 1);
        due.is("the next access token is 2", x.refresh(200, 0, 201), 2);
    }

    private static void revokeTakesTheFamilyBack() {
        GrantServer x = Bench.exchanged(5);
        x.authorize(0, Bench.REDIRECT, 1, 0, 101);
        x.exchange(101, Bench.REDIRECT, 2, 300);
        x.refresh(200, 0, 201);
        due.is("revoke the family", x.revoke(1, 201), 3);
        due.no("refresh token", x.active(1, 201));
        due.no("access token 1", x.active(2, 1));
        due.no("access token 3", x.active(2, 3));
        due.yes("refresh token of another family", x.active(1, 300));
        due.yes("access token of another family", x.active(2, 2));
        due.is("again", x.revoke(1, 201), 0);
        due.is("tokens stay there", x.count(2, false), 3);
    }

    private static void revokeBySpentToken() {
        GrantServer x = Bench.exchanged(5);
        x.refresh(200, 0, 201);
        due.is("revoke by the spent token", x.revoke(1, 200), 3);
        due.no("the next token", x.active(1, 201));
        GrantServer y = Bench.exchanged(5);
        y.tick(300);
        y.refresh(200, 0, 201);
        y.tick(300);
        due.is("revoke by the ended token", y.revoke(1, 200), 1);
        due.no("the next token then", y.active(1, 201));
    }

    private static void revokeTakesOneAccessTokenBack() {
        GrantServer x = Bench.exchanged(5);
        x.refresh(200, 0, 201);
        due.is("revoke one", x.revoke(2, 1), 1);
        due.no("it", x.active(2, 1));
        due.yes("the other", x.active(2, 2));
        due.yes("the refresh token", x.active(1, 201));
        due.is("again", x.revoke(2, 1), 0);
        due.is("the rest of the family", x.revoke(1, 201), 2);
    }

    private static void revokeIsRefused() {
        GrantServer x = Bench.exchanged(5);
        int[] kinds = {0, 3, -1, Integer.MIN_VALUE, Integer.MAX_VALUE};
        for (int kind : kinds) {
            due.is("kind " + kind, x.revoke(kind, 100), GrantServer.NONE);
        }
        due.is("a code is no refresh token", x.revoke(1, 100), 0);
        due.is("nor is an access token", x.revoke(1, 1), 0);
        due.is("no such access token", x.revoke(2, 200), 0);
        due.is("access token 0", x.revoke(2, 0), 0);
        x.client(6, 12, 15);
        x.login(1, 6);
        due.is("family of another", x.revoke(1, 200), 0);
        due.is("access token of another", x.revoke(2, 1), 0);
        x.login(1, 7);
        due.is("nobody logged in", x.revoke(1, 200), GrantServer.LOGIN);
        due.is("nobody logged in, wrong kind", x.revoke(0, 200), GrantServer.LOGIN);
        due.is("active refresh tokens", x.count(1, true), 1);
        due.is("active access tokens", x.count(2, true), 1);
    }

    private static void revokeCountsOnlyWhatWasActive() {
        GrantServer x = Bench.exchanged(5);
        x.tick(30);
        x.refresh(200, 0, 201);
        x.tick(30);
        due.is("an ended access token", x.revoke(2, 1), 0);
        due.is("the family, one token ended, one spent", x.revoke(1, 201), 2);
        GrantServer y = Bench.exchanged(5);
        y.tick(600);
        due.is("all ended", y.revoke(1, 200), 0);
        y.sweep();
        due.is("swept", y.revoke(1, 200), 0);
    }

    private static void revokedFamilyGivesNothing() {
        GrantServer x = Bench.exchanged(5);
        x.revoke(1, 200);
        due.is("refresh", x.refresh(200, 0, 201), GrantServer.GRANT);
        due.is("refresh, wrong scopes", x.refresh(200, 2, 201), GrantServer.GRANT);
        due.is("exchange", x.exchange(100, Bench.REDIRECT, 1, 201), GrantServer.GRANT);
        due.is("refresh tokens", x.count(1, false), 1);
        x.authorize(0, Bench.REDIRECT, 1, 0, 101);
        due.is("another family", x.exchange(101, Bench.REDIRECT, 1, 201), 2);
        due.yes("its refresh token", x.active(1, 201));
    }

    private static void activeLooksAtTheKind() {
        GrantServer x = Bench.exchanged(5);
        x.authorize(0, Bench.REDIRECT, 1, 0, 101);
        due.yes("code", x.active(0, 101));
        due.no("spent code", x.active(0, 100));
        due.no("a code as refresh token", x.active(1, 101));
        due.no("a code as access token", x.active(2, 101));
        due.yes("refresh token", x.active(1, 200));
        due.no("a refresh token as code", x.active(0, 200));
        due.no("a refresh token as access token", x.active(2, 200));
        due.yes("access token", x.active(2, 1));
        due.no("an access token as code", x.active(0, 1));
        due.no("an access token as refresh token", x.active(1, 1));
        int[] kinds = {-1, 3, 4, Integer.MIN_VALUE, Integer.MAX_VALUE};
        for (int kind : kinds) {
            due.no("kind " + kind, x.active(kind, 1) || x.active(kind, 101) || x.active(kind, 200));
        }
        for (int kind = 0; kind < 3; kind++) {
            due.no("number 0, kind " + kind, x.active(kind, 0));
            due.no("number -1, kind " + kind, x.active(kind, -1));
        }
        x.login(0, -1);
        due.yes("whoever is logged in", x.active(1, 200));
    }

    private static void countLooksAtTheKind() {
        GrantServer x = Bench.exchanged(5);
        x.authorize(0, Bench.REDIRECT, 1, 0, 101);
        x.authorize(0, Bench.REDIRECT, 1, 0, 102);
        x.refresh(200, 0, 201);
        x.refresh(201, 0, 202);
        x.refresh(202, 0, 203);
        x.revoke(2, 1);
        x.login(0, -1);
        int[] all = {3, 4, 4};
        int[] active = {2, 1, 3};
        for (int kind = 0; kind < 3; kind++) {
            due.is("kind " + kind, x.count(kind, false), all[kind]);
            due.is("active of kind " + kind, x.count(kind, true), active[kind]);
        }
        int[] kinds = {-1, 3, Integer.MIN_VALUE, Integer.MAX_VALUE};
        for (int kind : kinds) {
            due.is("kind " + kind, x.count(kind, false), GrantServer.NONE);
            due.is("active of kind " + kind, x.count(kind, true), GrantServer.NONE);
        }
    }

    private static void accessTokensAreNumberedForGood() {
        GrantServer x = Bench.exchanged(5);
        x.refresh(200, 0, 201);
        x.tick(60);
        due.is("sweep takes the code and both access tokens", x.sweep(), 3);
        due.is("the numbers go on", x.refresh(201, 0, 202), 3);
        due.no("access token 1", x.active(2, 1));
        due.yes("access token 3", x.active(2, 3));
    }
}
