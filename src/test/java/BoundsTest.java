/**
 * The boundary cases of promises 1 to 8 and 16 to 18, one method for each sentence that names one:
 * the last value that is taken and the first that is refused on each side, the empty and the full.
 * What is refused when several reasons hold is in OrderTest, what a refused call leaves as it was in
 * RefusedCallsTest, the texts in TextBoundsTest.
 */
public final class BoundsTest {
    private static final int LEAST = Integer.MIN_VALUE;
    private static final int MOST = Integer.MAX_VALUE;
    private static final int LAST_CHALLENGE = 1073741823;
    private static final Due due = new Due("BoundsTest");

    public static void main(String[] args) {
        terms();
        clients();
        codes();
        tokens();
        looks();
        time();
        due.end();
    }

    private static void terms() {
        timeIsNoughtAtFirst();
        atMostSixteenCodes();
        atMostTwentyFourRefreshTokens();
        atMostTwentyFourAccessTokens();
        thereUntilASweep();
        endIsTheTimeOfMakingAndTheLife();
        accessTokensAreNumberedForGood();
        freeNumbers();
        freeWhenNoCodeHasIt();
        freeWhenNoRefreshTokenHasIt();
        accessTokensHoldNoNumbers();
        activeUntilTheEnd();
        activeUnlessSpent();
        activeUnlessRevokedItself();
        activeUnlessItsFamilyIsRevoked();
    }

    private static void clients() {
        livesAreAtLeastOne();
        livesAreAtMostAThousand();
        noClientAtFirst();
        nobodyIsLoggedInAtFirst();
        clientsUpToFour();
        clientScopes();
        loginNeedsItsOwnSecret();
        loginNeedsAClient();
        failedLoginLogsOut();
    }

    private static void codes() {
        authorizeNeedsAClient();
        authorizeChallenges();
        authorizeRedirects();
        authorizeScopes();
        authorizeScopesOfTheClient();
        exchangeAudiences();
        exchangeNeedsACodeOfItsOwn();
        exchangeOnce();
        exchangeBeforeTheEnd();
        exchangeWithItsRedirect();
        exchangeWithItsChallenge();
        exchangeForAFreeNumber();
        exchangeFullOfEitherKind();
    }

    private static void tokens() {
        refreshNeedsATokenOfItsOwn();
        refreshOnce();
        refreshBeforeTheEnd();
        refreshNotWhenRevoked();
        refreshScopes();
        refreshScopesOfTheFamily();
        refreshForAFreeNumber();
        refreshFullOfEitherKind();
        revokeKinds();
        revokeNeedsATokenOfItsOwn();
        revokeCountsWhatWasActive();
    }

    private static void looks() {
        activeKinds();
        activeNumbers();
        countKinds();
        countOfNoneAndOfAll();
    }

    private static void time() {
        tickBounds();
        tickOfNone();
        tickFarthest();
        sweepOfNone();
        sweepAtTheEnd();
        sweepLeavesSpentAndRevoked();
        sweepOfAll();
        sweepOfSome();
    }

    /** Lives 50, 60 and 70, at time 0; client 0 (secret 5, redirect 11, scopes 15) is logged in. */
    private static GrantServer server() {
        GrantServer x = new GrantServer(7, 50, 60, 70);
        x.client(5, 11, 15);
        x.login(0, 5);
        return x;
    }

    /** With client 1 (6, 12, 15), and codes 100 of client 0 and 110 of client 1, all scopes 5. */
    private static GrantServer withCodes() {
        GrantServer x = server();
        x.client(6, 12, 15);
        x.authorize(0, 11, 5, 0, 100);
        x.authorize(1, 12, 5, 0, 110);
        return x;
    }

    /** With 100 exchanged for 200 and access token 1, and 110 for 210 and access token 2. */
    private static GrantServer withTokens() {
        GrantServer x = withCodes();
        x.exchange(100, 11, 1, 200);
        x.login(1, 6);
        x.exchange(110, 12, 2, 210);
        x.login(0, 5);
        return x;
    }

    /** So many pairs of tokens: code 1 is exchanged for 1001, and that refreshed for 1002, .. */
    private static GrantServer withPairs(int pairs) {
        GrantServer x = new GrantServer(7, 1000, 1000, 1000);
        x.client(5, 11, 15);
        x.login(0, 5);
        x.authorize(0, 11, 1, 0, 1);
        x.authorize(0, 11, 1, 0, 2);
        for (int i = 1; i <= pairs; i++) {
            due.is("pair " + i, i == 1 ? x.exchange(1, 11, 0, 1001) : x.refresh(999 + i, 0, 1000 + i), i);
        }
        return x;
    }

    // Terms

    /** "TIME is a number of ticks, 0 at first." */
    private static void timeIsNoughtAtFirst() {
        GrantServer x = withTokens();
        due.is("text of client 1's token", Bench.text(x, true),
            Bench.wrapped(7, Bench.claims(1, 2, 60, 2, 5)));
    }

    /** "CODES (at most 16)" and promise 4, "FULL when there are 16 codes". */
    private static void atMostSixteenCodes() {
        GrantServer x = server();
        for (int i = 1; i <= 16; i++) {
            due.is("code " + i, x.authorize(0, 11, 1, 0, i), 0);
            due.is("codes", x.count(0, false), i);
        }
        due.is("code 17", x.authorize(0, 11, 1, 0, 17), GrantServer.FULL);
        due.is("codes", x.count(0, false), 16);
        due.no("code 17 is there", x.active(0, 17));
        for (int i = 1; i <= 16; i++) {
            due.yes("code " + i + " is there", x.active(0, i));
        }
        x.exchange(1, 11, 0, 100);
        due.is("code 17, one spent", x.authorize(0, 11, 1, 0, 17), GrantServer.FULL);
        x.tick(50);
        due.is("code 17, all ended", x.authorize(0, 11, 1, 0, 17), GrantServer.FULL);
        x.sweep();
        due.is("code 17, all swept", x.authorize(0, 11, 1, 0, 17), 0);
    }

    /** "REFRESH TOKENS (at most 24)" and "FULL there are 24 refresh tokens", access tokens swept. */
    private static void atMostTwentyFourRefreshTokens() {
        GrantServer x = new GrantServer(7, 1000, 1, 1000);
        x.client(5, 11, 1);
        x.login(0, 5);
        x.authorize(0, 11, 1, 0, 1);
        x.authorize(0, 11, 1, 0, 2);
        for (int i = 1; i <= 24; i++) {
            due.is("pair " + i, i == 1 ? x.exchange(1, 11, 0, 1001) : x.refresh(999 + i, 0, 1000 + i), i);
            x.tick(1);
            due.is("sweep of access token " + i, x.sweep(), 1);
        }
        due.is("refresh tokens", x.count(1, false), 24);
        due.is("access tokens", x.count(2, false), 0);
        due.is("refresh for token 25", x.refresh(1024, 0, 1025), GrantServer.FULL);
        due.is("exchange for token 25", x.exchange(2, 11, 0, 1025), GrantServer.FULL);
        due.is("refresh tokens then", x.count(1, false), 24);
    }

    /** "ACCESS TOKENS (at most 24)" and "or 24 access tokens", refresh tokens swept. */
    private static void atMostTwentyFourAccessTokens() {
        GrantServer x = new GrantServer(7, 1000, 1000, 1);
        x.client(5, 11, 1);
        x.login(0, 5);
        for (int i = 1; i <= 4; i++) {
            x.authorize(0, 11, 1, 0, i);
        }
        int made = 0;
        for (int code = 1; code <= 3; code++) {
            due.is("exchange", x.exchange(code, 11, 0, 1001), ++made);
            for (int i = 2; i <= 8; i++) {
                due.is("refresh", x.refresh(999 + i, 0, 1000 + i), ++made);
            }
            if (code < 3) {
                x.tick(1);
                due.is("sweep of refresh tokens", x.sweep(), 8);
            }
        }
        due.is("refresh tokens", x.count(1, false), 8);
        due.is("access tokens", x.count(2, false), 24);
        due.is("refresh for token 25", x.refresh(1008, 0, 1009), GrantServer.FULL);
        due.is("exchange for token 25", x.exchange(4, 11, 0, 1009), GrantServer.FULL);
        due.is("access tokens then", x.count(2, false), 24);
        x.revoke(2, 24);
        due.is("refresh for token 25, one revoked", x.refresh(1008, 0, 1009), GrantServer.FULL);
        due.is("exchange for token 25, one revoked", x.exchange(4, 11, 0, 1009), GrantServer.FULL);
    }

    /** "are there from when they are made until a sweep takes them away" */
    private static void thereUntilASweep() {
        GrantServer x = withTokens();
        x.tick(10000);
        int[] there = {2, 2, 2};
        for (int kind = 0; kind < 3; kind++) {
            due.is("ended ones of kind " + kind, x.count(kind, false), there[kind]);
            due.is("of them active", x.count(kind, true), 0);
        }
        due.is("the number of an ended code", x.authorize(0, 11, 1, 0, 100), GrantServer.TAKEN);
        due.is("the number of an ended token", x.authorize(0, 11, 1, 0, 210), GrantServer.TAKEN);
        due.is("sweep", x.sweep(), 6);
        due.is("the number of a swept code", x.authorize(0, 11, 1, 0, 100), 0);
        due.is("the number of a swept token", x.authorize(0, 11, 1, 0, 210), 0);
    }

    /** "an END: the time when it was made and the life of its kind" */
    private static void endIsTheTimeOfMakingAndTheLife() {
        GrantServer x = server();
        x.tick(9999);
        x.authorize(0, 11, 5, 0, 100);
        x.authorize(0, 11, 5, 0, 101);
        x.tick(7);
        x.exchange(100, 11, 0, 200);
        due.is("text", Bench.text(x, true), Bench.wrapped(7, Bench.claims(0, 0, 10066, 1, 5)));
        x.tick(42);
        due.yes("code at 10048", x.active(0, 101));
        x.tick(1);
        due.no("code at 10049", x.active(0, 101));
        x.tick(16);
        due.yes("access token at 10065", x.active(2, 1));
        x.tick(1);
        due.no("access token at 10066", x.active(2, 1));
        x.tick(9);
        due.yes("refresh token at 10075", x.active(1, 200));
        x.tick(1);
        due.no("refresh token at 10076", x.active(1, 200));
    }

    /** "access tokens are numbered 1, 2, .. as they are made, for good", whatever has been swept. */
    private static void accessTokensAreNumberedForGood() {
        GrantServer x = new GrantServer(7, 1, 1, 1);
        x.client(5, 11, 15);
        x.login(0, 5);
        for (int i = 1; i <= 101; i++) {
            x.authorize(0, 11, 15, 0, 1);
            due.is("token " + i, x.exchange(1, 11, 3, 2), i);
            if (i < 101) {
                x.tick(1);
                x.sweep();
            }
        }
        due.no("token 100", x.active(2, 100));
        due.yes("token 101", x.active(2, 101));
        due.is("take", x.take(true), 75);
        due.is("check", x.check(3, 15), 0);
    }

    /** "A number is FREE when it is 1 .. 65535" */
    private static void freeNumbers() {
        for (int number : new int[] {LEAST, -65535, -1, 0, 65536, 65537, 131071, MOST}) {
            due.is("authorize " + number, withTokens().authorize(0, 11, 1, 0, number), GrantServer.TAKEN);
            due.is("exchange for " + number, withCodes().exchange(100, 11, 1, number), GrantServer.TAKEN);
            due.is("refresh for " + number, withTokens().refresh(200, 0, number), GrantServer.TAKEN);
        }
        for (int number : new int[] {1, 2, 65534, 65535}) {
            due.is("authorize " + number, withTokens().authorize(0, 11, 1, 0, number), 0);
            due.is("exchange for " + number, withCodes().exchange(100, 11, 1, number), 1);
            due.is("refresh for " + number, withTokens().refresh(200, 0, number), 3);
        }
    }

    /** "and no code .. that is there has it", spent or ended or another's too. */
    private static void freeWhenNoCodeHasIt() {
        for (int number : new int[] {100, 110}) {
            GrantServer x = withTokens();
            x.authorize(0, 11, 1, 0, 101);
            due.is("authorize " + number, x.authorize(0, 11, 1, 0, number), GrantServer.TAKEN);
            due.is("authorize an own active", x.authorize(0, 11, 1, 0, 101), GrantServer.TAKEN);
            due.is("exchange for " + number, x.exchange(101, 11, 1, number), GrantServer.TAKEN);
            due.is("exchange for itself", x.exchange(101, 11, 1, 101), GrantServer.TAKEN);
            due.is("refresh for " + number, x.refresh(200, 0, number), GrantServer.TAKEN);
            x.tick(50);
            due.is("refresh for " + number + ", ended", x.refresh(200, 0, number), GrantServer.TAKEN);
            due.is("sweep", x.sweep(), 3);
            due.is("refresh for " + number + ", swept", x.refresh(200, 0, number), 3);
            due.is("authorize " + number + " then", x.authorize(0, 11, 1, 0, number), GrantServer.TAKEN);
        }
    }

    /** "and no refresh token that is there has it", spent or ended or revoked or another's too. */
    private static void freeWhenNoRefreshTokenHasIt() {
        GrantServer x = withTokens();
        x.refresh(200, 0, 201);
        x.authorize(0, 11, 1, 0, 101);
        x.authorize(0, 11, 1, 0, 102);
        x.exchange(102, 11, 1, 202);
        x.revoke(1, 202);
        for (int number : new int[] {200, 201, 202, 210}) {
            due.is("authorize " + number, x.authorize(0, 11, 1, 0, number), GrantServer.TAKEN);
            due.is("exchange for " + number, x.exchange(101, 11, 1, number), GrantServer.TAKEN);
            due.is("refresh for " + number, x.refresh(201, 0, number), GrantServer.TAKEN);
        }
        x.tick(70);
        due.is("authorize an ended one's", x.authorize(0, 11, 1, 0, 200), GrantServer.TAKEN);
        x.sweep();
        due.is("authorize a swept one's", x.authorize(0, 11, 1, 0, 200), 0);
    }

    /** Codes and refresh tokens alone hold a number: that of an access token is free. */
    private static void accessTokensHoldNoNumbers() {
        due.is("authorize 1", withTokens().authorize(0, 11, 1, 0, 1), 0);
        due.is("refresh for 2", withTokens().refresh(200, 0, 2), 3);
        GrantServer x = withTokens();
        x.authorize(0, 11, 1, 0, 3);
        due.is("exchange of code 3 for 1", x.exchange(3, 11, 0, 1), 3);
        due.yes("refresh token 1", x.active(1, 1));
        due.is("revoke access token 1 alone", x.revoke(2, 1), 1);
        due.yes("refresh token 1 then", x.active(1, 1));
    }

    /** ACTIVE: "whose end is after the time" */
    private static void activeUntilTheEnd() {
        int[] ends = {50, 70, 60};
        int[] numbers = {101, 200, 1};
        for (int kind = 0; kind < 3; kind++) {
            GrantServer x = withTokens();
            x.authorize(0, 11, 1, 0, 101);
            x.tick(ends[kind] - 1);
            due.yes("kind " + kind + " a tick before its end", x.active(kind, numbers[kind]));
            x.tick(1);
            due.no("kind " + kind + " at its end", x.active(kind, numbers[kind]));
            x.tick(1);
            due.no("kind " + kind + " a tick behind it", x.active(kind, numbers[kind]));
        }
    }

    /** ACTIVE: "what is not spent" */
    private static void activeUnlessSpent() {
        GrantServer x = withCodes();
        due.yes("code", x.active(0, 100));
        x.exchange(100, 11, 1, 200);
        due.no("spent code", x.active(0, 100));
        due.yes("refresh token", x.active(1, 200));
        x.refresh(200, 0, 201);
        due.no("spent refresh token", x.active(1, 200));
    }

    /** ACTIVE: "and not revoked, neither itself" */
    private static void activeUnlessRevokedItself() {
        GrantServer x = withTokens();
        x.revoke(2, 1);
        due.no("access token", x.active(2, 1));
        due.yes("its refresh token", x.active(1, 200));
        due.is("refresh", x.refresh(200, 0, 201), 3);
        due.yes("the next access token", x.active(2, 3));
    }

    /** ACTIVE: "nor its family" */
    private static void activeUnlessItsFamilyIsRevoked() {
        GrantServer x = withTokens();
        x.refresh(200, 0, 201);
        x.revoke(1, 201);
        due.no("refresh token", x.active(1, 201));
        due.no("first access token", x.active(2, 1));
        due.no("second access token", x.active(2, 3));
        due.yes("another family's refresh token", x.active(1, 210));
        due.yes("another family's access token", x.active(2, 2));
    }

    // Promises 1 to 3

    /** "the lives .., each kept but at least 1", each of the three by itself. */
    private static void livesAreAtLeastOne() {
        for (int life : new int[] {LEAST, -1000, -1, 0, 1}) {
            livesAre(life, 20, 30, 1, 20, 30);
            livesAre(20, life, 30, 20, 1, 30);
            livesAre(20, 30, life, 20, 30, 1);
        }
        livesAre(2, 2, 2, 2, 2, 2);
    }

    /** "and at most 1000" */
    private static void livesAreAtMostAThousand() {
        for (int life : new int[] {1000, 1001, 2000, 65536, MOST}) {
            livesAre(life, 20, 30, 1000, 20, 30);
            livesAre(20, life, 30, 20, 1000, 30);
            livesAre(20, 30, life, 20, 30, 1000);
        }
        livesAre(999, 999, 999, 999, 999, 999);
    }

    private static void livesAre(int codes, int access, int refresh, int keptCodes, int keptAccess,
            int keptRefresh) {
        int[] kept = {keptCodes, keptRefresh, keptAccess};
        String told = "lives " + codes + ", " + access + ", " + refresh + ": kind ";
        for (int kind = 0; kind < 3; kind++) {
            GrantServer x = new GrantServer(7, codes, access, refresh);
            x.client(5, 11, 1);
            x.login(0, 5);
            x.authorize(0, 11, 1, 0, 1);
            x.exchange(1, 11, 0, 2);
            x.authorize(0, 11, 1, 0, 3);
            x.tick(kept[kind] - 1);
            due.is(told + kind + " before its end", x.count(kind, true), 1);
            x.tick(1);
            due.is(told + kind + " at its end", x.count(kind, true), 0);
        }
    }

    /** "No client" */
    private static void noClientAtFirst() {
        GrantServer x = new GrantServer(7, 50, 60, 70);
        for (int client = -1; client <= 4; client++) {
            due.is("authorize client " + client, x.authorize(client, 0, 1, 0, 1), GrantServer.NONE);
            due.no("login of client " + client, x.login(client, 0));
        }
    }

    /** "nobody is logged in", neither at first nor when clients come. */
    private static void nobodyIsLoggedInAtFirst() {
        GrantServer x = new GrantServer(7, 50, 60, 70);
        for (int clients = 0; clients <= 4; clients++) {
            due.is("exchange", x.exchange(1, 0, 0, 2), GrantServer.LOGIN);
            due.is("refresh", x.refresh(2, 0, 3), GrantServer.LOGIN);
            due.is("revoke", x.revoke(1, 2), GrantServer.LOGIN);
            x.client(0, 0, 1);
            x.authorize(0, 0, 1, 0, 1);
        }
    }

    /** "NONE, refused, when there are 4" */
    private static void clientsUpToFour() {
        GrantServer x = new GrantServer(7, 50, 60, 70);
        for (int i = 0; i < 4; i++) {
            due.no("login of client " + i + " before", x.login(i, 10 + i));
            due.is("client " + i, x.client(10 + i, 20 + i, 1 << i), i);
            due.yes("login of client " + i, x.login(i, 10 + i));
        }
        due.is("fifth", x.client(14, 24, 1), GrantServer.NONE);
        due.is("fifth again", x.client(14, 24, 1), GrantServer.NONE);
        due.no("login of the fifth", x.login(4, 14));
        for (int i = 0; i < 4; i++) {
            due.yes("login of client " + i + " then", x.login(i, 10 + i));
            due.is("its code", x.authorize(i, 20 + i, 1 << i, 0, 1 + i), 0);
        }
    }

    /** "or scopes is not 1 .. 15" */
    private static void clientScopes() {
        for (int scopes : new int[] {LEAST, -16, -15, -1, 0, 16, 17, 31, 257, MOST}) {
            due.is("scopes " + scopes, new GrantServer(7, 1, 1, 1).client(5, 11, scopes), GrantServer.NONE);
        }
        for (int scopes = 1; scopes <= 15; scopes++) {
            due.is("scopes " + scopes, new GrantServer(7, 1, 1, 1).client(5, 11, scopes), 0);
        }
    }

    /** "when the secret is its own" */
    private static void loginNeedsItsOwnSecret() {
        for (int secret : new int[] {LEAST, -1, 0, 1, MOST}) {
            GrantServer x = new GrantServer(7, 1, 1, 1);
            x.client(secret, 11, 1);
            x.client(1000, 12, 1);
            due.yes("secret " + secret, x.login(0, secret));
            due.no("one more than " + secret, x.login(0, secret + 1));
            due.no("one less than " + secret, x.login(0, secret - 1));
            due.no("the turned sign of " + secret, secret != -secret && x.login(0, -secret));
            due.no("another's secret", x.login(0, 1000));
            due.no("secret " + secret + " for another", x.login(1, secret));
        }
    }

    /** "and when there is no such client" */
    private static void loginNeedsAClient() {
        GrantServer x = new GrantServer(7, 1, 1, 1);
        for (int there = 1; there <= 4; there++) {
            x.client(0, 0, 1);
            for (int client : new int[] {LEAST, -1, 0, 1, 2, 3, 4, 5, MOST}) {
                due.is("login of " + client + ", " + there + " there", x.login(client, 0),
                    client >= 0 && client < there);
            }
        }
    }

    /** "Otherwise .. nobody is: false." */
    private static void failedLoginLogsOut() {
        int[][] failing = {{0, 4}, {0, 6}, {1, 5}, {-1, 5}, {2, 5}, {MOST, 5}, {LEAST, 5}};
        for (int[] login : failing) {
            GrantServer x = withTokens();
            due.no("login(" + login[0] + ", " + login[1] + ")", x.login(login[0], login[1]));
            due.is("revoke", x.revoke(1, 200), GrantServer.LOGIN);
            due.is("revoke of another's", x.revoke(1, 210), GrantServer.LOGIN);
            due.is("refresh", x.refresh(200, 0, 300), GrantServer.LOGIN);
            due.is("exchange", x.exchange(100, 11, 1, 300), GrantServer.LOGIN);
            due.is("all are active still", x.count(1, true) + x.count(2, true), 4);
        }
    }

    // Promises 4 and 5

    /** "NONE when there is no such client" */
    private static void authorizeNeedsAClient() {
        for (int there = 0; there <= 4; there++) {
            for (int client : new int[] {LEAST, -1, 0, 1, 2, 3, 4, 5, MOST}) {
                GrantServer x = new GrantServer(7, 1, 1, 1);
                for (int i = 0; i < there; i++) {
                    x.client(i, 11, 1);
                }
                due.is("authorize client " + client + ", " + there + " there",
                    x.authorize(client, 11, 1, 0, 1),
                    client >= 0 && client < there ? 0 : GrantServer.NONE);
            }
        }
    }

    /** "or challenge is not 0 .. 2^30 - 1" */
    private static void authorizeChallenges() {
        for (int challenge : new int[] {LEAST, -LAST_CHALLENGE, -1, LAST_CHALLENGE + 1, MOST}) {
            due.is("challenge " + challenge, server().authorize(0, 11, 1, challenge, 1), GrantServer.NONE);
        }
        for (int challenge : new int[] {0, 1, LAST_CHALLENGE - 1, LAST_CHALLENGE}) {
            due.is("challenge " + challenge, server().authorize(0, 11, 1, challenge, 1), 0);
        }
    }

    /** "REDIRECT when it is not the client's" */
    private static void authorizeRedirects() {
        for (int redirect : new int[] {LEAST, -1, 0, 1, MOST}) {
            GrantServer x = new GrantServer(7, 1, 1, 1);
            x.client(5, redirect, 1);
            x.client(6, 1000, 1);
            due.is("one more", x.authorize(0, redirect + 1, 1, 0, 1), GrantServer.REDIRECT);
            due.is("one less", x.authorize(0, redirect - 1, 1, 0, 1), GrantServer.REDIRECT);
            due.is("another's", x.authorize(0, 1000, 1, 0, 1), GrantServer.REDIRECT);
            due.is("redirect " + redirect, x.authorize(0, redirect, 1, 0, 1), 0);
        }
    }

    /** "SCOPE when scopes is not 1 .. 15", of a client that has all. */
    private static void authorizeScopes() {
        for (int scopes : new int[] {LEAST, -16, -1, 0, 16, 17, 31, MOST}) {
            due.is("scopes " + scopes, server().authorize(0, 11, scopes, 0, 1), GrantServer.SCOPE);
        }
        for (int scopes = 1; scopes <= 15; scopes++) {
            due.is("scopes " + scopes, server().authorize(0, 11, scopes, 0, 1), 0);
        }
    }

    /** "or has one that the client has not" */
    private static void authorizeScopesOfTheClient() {
        for (int has = 1; has <= 15; has++) {
            for (int scopes = 1; scopes <= 15; scopes++) {
                GrantServer x = new GrantServer(7, 1, 1, 1);
                x.client(5, 11, has);
                due.is("scopes " + scopes + " of " + has, x.authorize(0, 11, scopes, 0, 1),
                    (has | scopes) == has ? 0 : GrantServer.SCOPE);
            }
        }
    }

    /** "NONE audience is not 0 .. 3" */
    private static void exchangeAudiences() {
        for (int audience : new int[] {LEAST, -1, 4, 5, MOST}) {
            due.is("audience " + audience, withCodes().exchange(100, 11, audience, 200), GrantServer.NONE);
        }
        for (int audience = 0; audience <= 3; audience++) {
            GrantServer x = withCodes();
            due.is("audience " + audience, x.exchange(100, 11, audience, 200), 1);
            due.is("its text", Bench.text(x, true), Bench.wrapped(7, Bench.claims(0, audience, 60, 1, 5)));
        }
    }

    /** "GRANT no code with that number is there, or its owner is not who is logged in" */
    private static void exchangeNeedsACodeOfItsOwn() {
        for (int code : new int[] {LEAST, -100, -1, 0, 99, 101, 65536 + 100, MOST}) {
            due.is("code " + code, withCodes().exchange(code, 11, 1, 200), GrantServer.GRANT);
        }
        due.is("another's", withCodes().exchange(110, 12, 1, 200), GrantServer.GRANT);
        GrantServer x = withCodes();
        x.login(1, 6);
        due.is("another's, seen from there", x.exchange(100, 11, 1, 200), GrantServer.GRANT);
        due.is("its own", x.exchange(110, 12, 1, 200), 1);
        due.is("code 200, a refresh token", x.exchange(200, 12, 1, 300), GrantServer.GRANT);
        due.is("code 1, an access token", x.exchange(1, 12, 1, 300), GrantServer.GRANT);
    }

    /** "GRANT it is spent (its family becomes revoked then)" */
    private static void exchangeOnce() {
        GrantServer x = withTokens();
        x.refresh(200, 0, 201);
        due.is("active tokens", x.count(1, true) + x.count(2, true), 5);
        due.is("the second time", x.exchange(100, 11, 1, 300), GrantServer.GRANT);
        due.no("its refresh token", x.active(1, 201));
        due.no("its access tokens", x.active(2, 1) || x.active(2, 3));
        due.is("the other family's tokens", x.count(1, true) + x.count(2, true), 2);
        due.is("the third time", x.exchange(100, 11, 1, 300), GrantServer.GRANT);
    }

    /** "GRANT its end is not after the time" */
    private static void exchangeBeforeTheEnd() {
        int[] times = {0, 48, 49, 50, 51, 10000};
        for (int time : times) {
            GrantServer x = withCodes();
            x.tick(time);
            due.is("at " + time, x.exchange(100, 11, 1, 200), time < 50 ? 1 : GrantServer.GRANT);
        }
    }

    /** "redirect is not its own" */
    private static void exchangeWithItsRedirect() {
        for (int redirect : new int[] {LEAST, -11, 0, 10, 12, MOST}) {
            due.is("redirect " + redirect, withCodes().exchange(100, redirect, 1, 200), GrantServer.GRANT);
        }
        due.is("redirect 11", withCodes().exchange(100, 11, 1, 200), 1);
    }

    /** "or its challenge is not that of the input" */
    private static void exchangeWithItsChallenge() {
        for (String text : new String[] {"", " ", "~", "ab", "~".repeat(120)}) {
            int challenge = Bench.challengeOf(text);
            for (int by = -1; by <= 1; by++) {
                int given = Math.max(0, challenge + by);
                GrantServer x = server();
                x.authorize(0, 11, 1, given, 100);
                Bench.type(x, text);
                due.is("challenge " + given + " of " + challenge, x.exchange(100, 11, 1, 200),
                    given == challenge ? 1 : GrantServer.GRANT);
                due.is("the input stays", Bench.text(x, false), text);
            }
        }
    }

    /** "TAKEN number is not free", its own code's number too, while another one is. */
    private static void exchangeForAFreeNumber() {
        for (int number : new int[] {0, 65536, 100, 110}) {
            GrantServer x = withCodes();
            due.is("number " + number, x.exchange(100, 11, 1, number), GrantServer.TAKEN);
            due.yes("the code is active still", x.active(0, 100));
            due.is("another number", x.exchange(100, 11, 1, 65535), 1);
        }
    }

    /** "FULL there are 24 refresh tokens or 24 access tokens"; with 23 of each there is room. */
    private static void exchangeFullOfEitherKind() {
        GrantServer x = withPairs(23);
        due.is("exchange with 23", x.exchange(2, 11, 0, 2000), 24);
        GrantServer y = withPairs(24);
        due.is("exchange with 24", y.exchange(2, 11, 0, 2000), GrantServer.FULL);
        due.yes("the code is active still", y.active(0, 2));
        y.revoke(1, 1024);
        due.is("revoked ones have room too", y.exchange(2, 11, 0, 2000), GrantServer.FULL);
        y.tick(999);
        y.sweep();
        due.is("a tick before the end", y.exchange(2, 11, 0, 2000), GrantServer.FULL);
        y.tick(1);
        y.authorize(0, 11, 1, 0, 3);
        due.is("ended ones have room too", y.exchange(3, 11, 0, 2000), GrantServer.FULL);
        due.is("sweep", y.sweep(), 50);
        due.is("swept ones have none", y.exchange(3, 11, 0, 2000), 25);
    }

    // Promises 6 and 7

    /** "GRANT no refresh token with that number is there, or its owner is not who is logged in" */
    private static void refreshNeedsATokenOfItsOwn() {
        for (int token : new int[] {LEAST, -200, -1, 0, 1, 100, 199, 201, 65536 + 200, MOST}) {
            due.is("token " + token, withTokens().refresh(token, 0, 300), GrantServer.GRANT);
        }
        GrantServer x = withTokens();
        due.is("another's", x.refresh(210, 0, 300), GrantServer.GRANT);
        x.login(1, 6);
        due.is("another's, seen from there", x.refresh(200, 0, 300), GrantServer.GRANT);
        due.is("its own", x.refresh(210, 0, 300), 3);
    }

    /** "GRANT it is spent (its family becomes revoked then)" */
    private static void refreshOnce() {
        GrantServer x = withTokens();
        x.refresh(200, 0, 201);
        due.is("the second time", x.refresh(200, 0, 300), GrantServer.GRANT);
        due.no("its refresh token", x.active(1, 201));
        due.no("its access tokens", x.active(2, 1) || x.active(2, 3));
        due.is("the other family's tokens", x.count(1, true) + x.count(2, true), 2);
        due.is("the next one", x.refresh(201, 0, 300), GrantServer.GRANT);
    }

    /** "GRANT it is not active (nothing is revoked by that)": at its end. */
    private static void refreshBeforeTheEnd() {
        for (int time : new int[] {0, 68, 69, 70, 71, 10000}) {
            GrantServer x = withTokens();
            x.tick(time);
            due.is("at " + time, x.refresh(200, 0, 300), time < 70 ? 3 : GrantServer.GRANT);
        }
        GrantServer y = new GrantServer(7, 50, 60, 1);
        y.client(5, 11, 1);
        y.login(0, 5);
        y.authorize(0, 11, 1, 0, 100);
        y.exchange(100, 11, 1, 200);
        y.tick(1);
        due.is("ended", y.refresh(200, 0, 300), GrantServer.GRANT);
        due.yes("its access token", y.active(2, 1));
        due.is("ended, again", y.refresh(200, 0, 300), GrantServer.GRANT);
        due.yes("its access token still", y.active(2, 1));
    }

    /** "GRANT it is not active": its family is revoked. */
    private static void refreshNotWhenRevoked() {
        GrantServer x = withTokens();
        x.revoke(1, 200);
        due.is("revoked", x.refresh(200, 0, 300), GrantServer.GRANT);
        due.is("no new tokens", x.count(1, false) + x.count(2, false), 4);
        due.yes("another family's", x.active(1, 210) && x.active(2, 2));
    }

    /** "SCOPE scopes is not 0 .. 15", of a family that has all. */
    private static void refreshScopes() {
        for (int scopes : new int[] {LEAST, -16, -1, 16, 17, 31, MOST}) {
            due.is("scopes " + scopes, Bench.exchanged(15).refresh(200, scopes, 201), GrantServer.SCOPE);
        }
        for (int scopes = 0; scopes <= 15; scopes++) {
            GrantServer x = Bench.exchanged(15);
            due.is("scopes " + scopes, x.refresh(200, scopes, 201), 2);
            due.is("its text", Bench.text(x, true),
                Bench.wrapped(7, Bench.claims(0, 1, 60, 2, scopes == 0 ? 15 : scopes)));
        }
    }

    /** "or has one that the family has not"; for 0 "the family's", and the refresh token has them. */
    private static void refreshScopesOfTheFamily() {
        for (int has = 1; has <= 15; has++) {
            for (int scopes = 0; scopes <= 15; scopes++) {
                GrantServer x = Bench.exchanged(has);
                boolean within = (has | scopes) == has;
                due.is("scopes " + scopes + " of " + has, x.refresh(200, scopes, 201),
                    within ? 2 : GrantServer.SCOPE);
                due.is("for the family's", x.refresh(within ? 201 : 200, 0, 202), within ? 3 : 2);
                due.is("its text", Bench.text(x, true),
                    Bench.wrapped(7, Bench.claims(0, 1, 60, within ? 3 : 2, has)));
                due.is("for all of them", x.refresh(202, has, 203), within ? 4 : 3);
            }
        }
    }

    /** "TAKEN number is not free", its own number too, while another one is. */
    private static void refreshForAFreeNumber() {
        for (int number : new int[] {0, 65536, 100, 110, 200, 210}) {
            GrantServer x = withTokens();
            due.is("number " + number, x.refresh(200, 0, number), GrantServer.TAKEN);
            due.yes("the token is active still", x.active(1, 200));
            due.is("another number", x.refresh(200, 0, 65535), 3);
        }
    }

    /** "FULL there are 24 refresh tokens or 24 access tokens"; with 23 of each there is room. */
    private static void refreshFullOfEitherKind() {
        due.is("refresh with 23", withPairs(23).refresh(1023, 0, 2000), 24);
        GrantServer x = withPairs(24);
        due.is("refresh with 24", x.refresh(1024, 0, 2000), GrantServer.FULL);
        due.yes("the token is active still", x.active(1, 1024));
        due.is("tokens", x.count(1, false) + x.count(2, false), 48);
    }

    /** "Refused: .. NONE kind is not 1 or 2" */
    private static void revokeKinds() {
        for (int kind : new int[] {LEAST, -1, 0, 3, 4, 257, MOST}) {
            for (int number : new int[] {1, 100, 200}) {
                due.is("kind " + kind, withTokens().revoke(kind, number), GrantServer.NONE);
            }
        }
        due.is("kind 1", withTokens().revoke(1, 200), 2);
        due.is("kind 2", withTokens().revoke(2, 1), 1);
    }

    /** "0 if there is no such one, or it is another's" */
    private static void revokeNeedsATokenOfItsOwn() {
        for (int number : new int[] {LEAST, -1, 0, 1, 2, 100, 199, 201, 210, 65536, MOST}) {
            GrantServer x = withTokens();
            due.is("refresh token " + number, x.revoke(1, number), 0);
            due.is("all are active", x.count(1, true) + x.count(2, true), 4);
        }
        for (int number : new int[] {LEAST, -1, 0, 2, 3, 100, 200, 210, 65536, MOST}) {
            GrantServer x = withTokens();
            due.is("access token " + number, x.revoke(2, number), 0);
            due.is("all are active", x.count(1, true) + x.count(2, true), 4);
        }
    }

    /** "how many refresh and access tokens that were active are not any more" */
    private static void revokeCountsWhatWasActive() {
        due.is("none spent", withPairs(1).revoke(1, 1001), 2);
        due.is("the most", withPairs(24).revoke(1, 1024), 25);
        due.is("the most, by the first", withPairs(24).revoke(1, 1001), 25);
        GrantServer ended = withTokens();
        ended.tick(69);
        ended.refresh(200, 0, 201);
        ended.tick(1);
        due.is("by one that is spent and ended", ended.revoke(1, 200), 2);
        GrantServer x = withPairs(24);
        for (int number = 1; number <= 24; number++) {
            due.is("access token " + number, x.revoke(2, number), 1);
            due.is("access token " + number + " again", x.revoke(2, number), 0);
        }
        due.is("the refresh token alone", x.revoke(1, 1024), 1);
        due.is("nothing more", x.revoke(1, 1024), 0);
        int[][] left = {{59, 2}, {60, 1}, {69, 1}, {70, 0}};
        for (int[] l : left) {
            GrantServer y = withTokens();
            y.tick(l[0]);
            due.is("the family at " + l[0], y.revoke(1, 200), l[1]);
        }
        GrantServer z = withTokens();
        z.tick(59);
        due.is("access token a tick before its end", z.revoke(2, 1), 1);
        GrantServer late = withTokens();
        late.tick(60);
        due.is("access token at its end", late.revoke(2, 1), 0);
    }

    // Promises 8 and 18

    /** "false for other kinds" */
    private static void activeKinds() {
        GrantServer x = withTokens();
        x.authorize(0, 11, 1, 0, 101);
        for (int kind : new int[] {LEAST, -1, 3, 4, 256, MOST}) {
            for (int number : new int[] {1, 101, 200}) {
                due.no("kind " + kind + ", number " + number, x.active(kind, number));
            }
        }
        for (int kind = 0; kind < 3; kind++) {
            due.is("kind " + kind + ", number 1", x.active(kind, 1), kind == 2);
            due.is("kind " + kind + ", number 101", x.active(kind, 101), kind == 0);
            due.is("kind " + kind + ", number 200", x.active(kind, 200), kind == 1);
        }
    }

    /** "with that number is there", for numbers that none can have. */
    private static void activeNumbers() {
        GrantServer x = withTokens();
        GrantServer empty = new GrantServer(7, 1, 1, 1);
        for (int kind = 0; kind < 3; kind++) {
            for (int number : new int[] {LEAST, -1, 0, 65536, MOST}) {
                due.no("kind " + kind + ", number " + number, x.active(kind, number));
                due.no("kind " + kind + ", number " + number + ", none", empty.active(kind, number));
            }
        }
        due.no("access token 0", x.active(2, 0));
        due.yes("access token 1", x.active(2, 1));
        due.yes("access token 2", x.active(2, 2));
        due.no("access token 3", x.active(2, 3));
    }

    /** "NONE for another kind" */
    private static void countKinds() {
        GrantServer x = withTokens();
        for (int kind : new int[] {LEAST, -1, 3, 4, 256, MOST}) {
            due.is("kind " + kind, x.count(kind, false), GrantServer.NONE);
            due.is("active of kind " + kind, x.count(kind, true), GrantServer.NONE);
        }
    }

    /** "How many .. are there; with active true only those that are active": the empty and the full. */
    private static void countOfNoneAndOfAll() {
        GrantServer empty = new GrantServer(7, 1, 1, 1);
        for (int kind = 0; kind < 3; kind++) {
            due.is("none of kind " + kind, empty.count(kind, false), 0);
            due.is("none active of kind " + kind, empty.count(kind, true), 0);
        }
        GrantServer x = withPairs(24);
        for (int i = 3; i <= 16; i++) {
            x.authorize(0, 11, 1, 0, i);
        }
        int[] all = {16, 24, 24};
        int[] active = {15, 1, 24};
        for (int kind = 0; kind < 3; kind++) {
            due.is("all of kind " + kind, x.count(kind, false), all[kind]);
            due.is("all active of kind " + kind, x.count(kind, true), active[kind]);
        }
        x.tick(1000);
        for (int kind = 0; kind < 3; kind++) {
            due.is("ended of kind " + kind, x.count(kind, false), all[kind]);
            due.is("ended, active of kind " + kind, x.count(kind, true), 0);
        }
    }

    // Promises 16 and 17

    /** "false, refused, when n is not 0 .. 10000" */
    private static void tickBounds() {
        for (int n : new int[] {LEAST, -10000, -1, 10001, 20000, 65536, MOST}) {
            due.no("tick " + n, server().tick(n));
        }
        for (int n : new int[] {0, 1, 9999, 10000}) {
            due.yes("tick " + n, server().tick(n));
        }
    }

    /** No tick goes by when n is 0. */
    private static void tickOfNone() {
        GrantServer x = withTokens();
        x.tick(59);
        due.yes("tick 0", x.tick(0));
        due.yes("access token", x.active(2, 1));
        due.yes("tick 1", x.tick(1));
        due.no("access token then", x.active(2, 1));
    }

    /** Ticks add up to the most that 512 calls can bring, and are told in the text. */
    private static void tickFarthest() {
        GrantServer x = new GrantServer(7, 1000, 1000, 1000);
        for (int i = 0; i < 4; i++) {
            x.client(i, i, 15);
        }
        x.login(3, 3);
        for (int i = 0; i < 420; i++) {
            due.yes("tick", x.tick(10000));
        }
        x.authorize(3, 3, 15, 0, 65535);
        due.is("exchange", x.exchange(65535, 3, 3, 1), 1);
        String text = Bench.wrapped(7, Bench.claims(3, 3, 4201000, 1, 15));
        due.is("text", Bench.text(x, true), text);
        due.is("take", x.take(true), text.length());
        due.is("check", x.check(3, 15), 3);
    }

    /** Sweep when there is nothing, and when nothing has ended. */
    private static void sweepOfNone() {
        GrantServer x = new GrantServer(7, 1, 1, 1);
        due.is("of a new object", x.sweep(), 0);
        x.tick(10000);
        due.is("later", x.sweep(), 0);
        due.is("nothing has ended", withTokens().sweep(), 0);
    }

    /** "whose end is not after the time" */
    private static void sweepAtTheEnd() {
        int[] ends = {50, 70, 60};
        for (int kind = 0; kind < 3; kind++) {
            GrantServer x = withTokens();
            x.tick(ends[kind] - 1);
            x.sweep();
            due.is("kind " + kind + " a tick before its end", x.count(kind, false), 2);
            x.tick(1);
            due.is("kind " + kind + " at its end", x.sweep(), 2);
            due.is("kind " + kind + " then", x.count(kind, false), 0);
            due.is("again", x.sweep(), 0);
        }
        GrantServer y = withTokens();
        y.tick(10000);
        due.is("long behind", y.sweep(), 6);
    }

    /** "(others, spent and revoked ones, too, stay and have room)" */
    private static void sweepLeavesSpentAndRevoked() {
        GrantServer x = withPairs(24);
        for (int i = 3; i <= 16; i++) {
            x.authorize(0, 11, 1, 0, i);
        }
        x.revoke(2, 24);
        x.revoke(1, 1024);
        x.tick(999);
        due.is("sweep", x.sweep(), 0);
        due.is("codes", x.count(0, false), 16);
        due.is("refresh tokens", x.count(1, false), 24);
        due.is("access tokens", x.count(2, false), 24);
        due.is("no room for a code", x.authorize(0, 11, 1, 0, 17), GrantServer.FULL);
        due.is("no room for tokens", x.exchange(2, 11, 0, 17), GrantServer.FULL);
        due.is("the number of a spent code", x.authorize(0, 11, 1, 0, 1), GrantServer.TAKEN);
        due.is("the number of a spent token", x.authorize(0, 11, 1, 0, 1001), GrantServer.TAKEN);
        due.is("the number of a revoked token", x.authorize(0, 11, 1, 0, 1024), GrantServer.TAKEN);
    }

    /** Full rooms are empty after a sweep, and can be filled again with what is neither spent nor revoked. */
    private static void sweepOfAll() {
        GrantServer x = withPairs(24);
        for (int i = 3; i <= 16; i++) {
            x.authorize(0, 11, 1, 0, i);
        }
        for (int number = 1; number <= 24; number++) {
            x.revoke(2, number);
        }
        x.revoke(1, 1024);
        x.tick(1000);
        due.is("sweep", x.sweep(), 64);
        for (int kind = 0; kind < 3; kind++) {
            due.is("kind " + kind, x.count(kind, false), 0);
        }
        for (int i = 1; i <= 16; i++) {
            due.is("code " + i, x.authorize(0, 11, 1, 0, i), 0);
            due.is("active codes", x.count(0, true), i);
        }
        due.is("code 17", x.authorize(0, 11, 1, 0, 17), GrantServer.FULL);
        for (int i = 1; i <= 24; i++) {
            due.is("pair " + i, i == 1 ? x.exchange(1, 11, 0, 1001) : x.refresh(999 + i, 0, 1000 + i),
                24 + i);
            due.is("active access tokens", x.count(2, true), i);
        }
        due.is("pair 25", x.refresh(1024, 0, 1025), GrantServer.FULL);
        due.is("active tokens", x.count(1, true) + x.count(2, true), 25);
    }

    /** "others .. stay": of full rooms those that have not ended, each with its number, and room for more. */
    private static void sweepOfSome() {
        GrantServer x = new GrantServer(7, 100, 100, 100);
        x.client(5, 11, 1);
        x.login(0, 5);
        for (int i = 0; i < 24; i++) {
            if (i < 15) {
                x.authorize(0, 11, 1, 0, 1 + i);
            }
            x.tick(i % 2);
        }
        x.authorize(0, 11, 1, 0, 16);
        // The time is 12: codes 1 and 2 end at 100, 3 and 4 at 101, .. 13 and 14 at 106, 15 at 107.
        for (int i = 1; i <= 24; i++) {
            due.is("pair " + i, i == 1 ? x.exchange(1, 11, 0, 1001) : x.refresh(999 + i, 0, 1000 + i), i);
            x.tick(i % 2);
        }
        // The time is 24: of the tokens 1 ends at 112, 2 and 3 at 113, 4 and 5 at 114, .. 24 at 124.
        x.tick(79);
        due.is("sweep at 103", x.sweep(), 8);
        for (int i = 17; i <= 24; i++) {
            due.is("code " + i, x.authorize(0, 11, 1, 0, i), 0);
        }
        due.is("code 25", x.authorize(0, 11, 1, 0, 25), GrantServer.FULL);
        for (int i = 1; i <= 24; i++) {
            due.is("code " + i + " is active", x.active(0, i), i > 8);
        }
        x.tick(12);
        due.is("sweep at 115", x.sweep(), 8 + 7 + 7);
        for (int i = 1; i <= 24; i++) {
            due.is("access token " + i + " is active", x.active(2, i), i > 7);
            due.is("refresh token " + i + " is active", x.active(1, 1000 + i), i == 24);
        }
        for (int i = 25; i <= 31; i++) {
            due.is("pair " + i, x.refresh(999 + i, 0, 1000 + i), i);
        }
        due.is("pair 32", x.refresh(1031, 0, 1032), GrantServer.FULL);
        for (int i = 1; i <= 32; i++) {
            due.is("access token " + i + " is active", x.active(2, i), i > 7 && i < 32);
        }
        due.is("active refresh tokens", x.count(1, true), 1);
        due.yes("refresh token 31", x.active(1, 1031));
    }
}
