/** Promises 4 (authorize) and 5 (exchange). */
public final class CodesTest {
    private static final int MOST_CHALLENGE = (1 << 30) - 1;
    private static final Due due = new Due("CodesTest");

    public static void main(String[] args) {
        authorizeWorksWhoeverIsLoggedIn();
        authorizeIsRefused();
        authorizeRefusesInOrder();
        numbersMustBeFree();
        sixteenCodesFillTheRoom();
        exchangeGivesTokens();
        exchangeIsRefused();
        exchangeRefusesInOrder();
        exchangeNeedsTheChallenge();
        exchangeHoldsToTheEnd();
        spentCodeRevokesItsFamily();
        spentCodeOfAnotherRevokesNothing();
        spentCodeRevokesOnlyItsFamily();
        refusedExchangeChangesNothing();
        refreshTokensFillTheRoom();
        accessTokensFillTheRoom();
        due.end();
    }

    private static void authorizeWorksWhoeverIsLoggedIn() {
        GrantServer x = Bench.server();
        x.client(6, 12, 3);
        due.is("client 0 logged in, a code for client 1", x.authorize(1, 12, 2, 0, 1), 0);
        x.login(0, -1);
        due.is("nobody logged in", x.authorize(1, 12, 3, MOST_CHALLENGE, 65535), 0);
        due.is("codes", x.count(0, false), 2);
        due.yes("code 1 is active", x.active(0, 1));
        due.yes("code 65535 is active", x.active(0, 65535));
        due.is("still nobody logged in", x.revoke(1, 1), GrantServer.LOGIN);
    }

    private static void authorizeIsRefused() {
        GrantServer x = Bench.server();
        x.client(6, 12, 5);
        due.is("client -1", x.authorize(-1, 12, 1, 0, 1), GrantServer.NONE);
        due.is("client 2", x.authorize(2, 12, 1, 0, 1), GrantServer.NONE);
        due.is("challenge -1", x.authorize(1, 12, 1, -1, 1), GrantServer.NONE);
        due.is("challenge 2^30", x.authorize(1, 12, 1, 1 << 30, 1), GrantServer.NONE);
        due.is("redirect of another", x.authorize(1, 11, 1, 0, 1), GrantServer.REDIRECT);
        int[] wrongScopes = {0, 16, -1, 17, 2, 8, 3, 7, 15, Integer.MIN_VALUE};
        for (int scopes : wrongScopes) {
            due.is("scopes " + scopes + " of 5", x.authorize(1, 12, scopes, 0, 1), GrantServer.SCOPE);
        }
        int[] wrongNumbers = {0, -1, 65536, Integer.MIN_VALUE, Integer.MAX_VALUE};
        for (int number : wrongNumbers) {
            due.is("number " + number, x.authorize(1, 12, 1, 0, number), GrantServer.TAKEN);
        }
        due.is("codes after refusals", x.count(0, false), 0);
        due.is("scopes 1 of 5", x.authorize(1, 12, 1, 0, 1), 0);
        due.is("scopes 4 of 5", x.authorize(1, 12, 4, 0, 2), 0);
        due.is("scopes 5 of 5", x.authorize(1, 12, 5, 0, 3), 0);
    }

    private static void authorizeRefusesInOrder() {
        GrantServer x = Bench.server();
        for (int number = 1; number <= 16; number++) {
            x.authorize(0, Bench.REDIRECT, 1, 0, number);
        }
        due.is("all wrong", x.authorize(0, 0, 0, -1, 0), GrantServer.NONE);
        due.is("no client, all wrong", x.authorize(1, 0, 0, 0, 0), GrantServer.NONE);
        due.is("redirect and more wrong", x.authorize(0, 0, 0, 0, 0), GrantServer.REDIRECT);
        due.is("scopes and more wrong", x.authorize(0, Bench.REDIRECT, 0, 0, 0), GrantServer.SCOPE);
        due.is("number and room wrong", x.authorize(0, Bench.REDIRECT, 1, 0, 1), GrantServer.TAKEN);
        due.is("room wrong", x.authorize(0, Bench.REDIRECT, 1, 0, 17), GrantServer.FULL);
    }

    private static void numbersMustBeFree() {
        GrantServer x = Bench.exchanged(1);
        due.is("number of a spent code", x.authorize(0, Bench.REDIRECT, 1, 0, 100), GrantServer.TAKEN);
        due.is("number of a refresh token", x.authorize(0, Bench.REDIRECT, 1, 0, 200), GrantServer.TAKEN);
        due.is("number of an access token", x.authorize(0, Bench.REDIRECT, 1, 0, 1), 0);
        x.refresh(200, 0, 201);
        due.is("number of a spent token", x.authorize(0, Bench.REDIRECT, 1, 0, 200), GrantServer.TAKEN);
        x.revoke(1, 201);
        due.is("number of a revoked token", x.authorize(0, Bench.REDIRECT, 1, 0, 201), GrantServer.TAKEN);
        x.tick(10);
        due.is("number of an ended code", x.authorize(0, Bench.REDIRECT, 1, 0, 100), GrantServer.TAKEN);
        x.sweep();
        due.is("number of a swept code", x.authorize(0, Bench.REDIRECT, 1, 0, 100), 0);
        due.yes("the code with the number used again", x.active(0, 100));
        due.is("token for the code used again", x.exchange(100, Bench.REDIRECT, 0, 300), 3);
    }

    private static void sixteenCodesFillTheRoom() {
        GrantServer x = Bench.server();
        for (int number = 1; number <= 16; number++) {
            due.is("code " + number, x.authorize(0, Bench.REDIRECT, 1, 0, number), 0);
        }
        due.is("code 17", x.authorize(0, Bench.REDIRECT, 1, 0, 17), GrantServer.FULL);
        due.is("codes", x.count(0, false), 16);
        x.exchange(1, Bench.REDIRECT, 0, 100);
        due.is("a spent code has room", x.authorize(0, Bench.REDIRECT, 1, 0, 17), GrantServer.FULL);
        x.tick(10);
        due.is("an ended code has room", x.authorize(0, Bench.REDIRECT, 1, 0, 17), GrantServer.FULL);
        due.is("sweep", x.sweep(), 16);
        for (int number = 1; number <= 16; number++) {
            due.is("code " + number + " again", x.authorize(0, Bench.REDIRECT, 1, 0, number), 0);
            due.yes("code " + number + " is active again", x.active(0, number));
        }
    }

    private static void exchangeGivesTokens() {
        GrantServer x = Bench.server();
        x.client(6, 12, 14);
        x.login(1, 6);
        x.tick(123);
        x.authorize(1, 12, 10, 0, 100);
        due.is("exchange", x.exchange(100, 12, 3, 200), 1);
        due.no("the code is active", x.active(0, 100));
        due.is("codes", x.count(0, false), 1);
        due.yes("refresh token", x.active(1, 200));
        due.yes("access token", x.active(2, 1));
        due.is("its text", Bench.text(x, true),
            Bench.wrapped(Bench.KEY, Bench.claims(1, 3, 183, 1, 10)));
        due.is("the input stays", Bench.text(x, false), "");
        x.authorize(1, 12, 4, 0, 101);
        due.is("second exchange", x.exchange(101, 12, 0, 1), 2);
        due.is("its text", Bench.text(x, true),
            Bench.wrapped(Bench.KEY, Bench.claims(1, 0, 183, 2, 4)));
        due.is("refresh has the code's scopes", x.refresh(200, 10, 202), 3);
        due.is("refresh has no others", x.refresh(202, 4, 203), GrantServer.SCOPE);
    }

    private static void exchangeIsRefused() {
        GrantServer x = Bench.server();
        x.client(6, 12, 15);
        x.authorize(0, Bench.REDIRECT, 1, 0, 100);
        x.authorize(1, 12, 1, 0, 101);
        due.is("audience -1", x.exchange(100, Bench.REDIRECT, -1, 200), GrantServer.NONE);
        due.is("audience 4", x.exchange(100, Bench.REDIRECT, 4, 200), GrantServer.NONE);
        due.is("no such code", x.exchange(102, Bench.REDIRECT, 0, 200), GrantServer.GRANT);
        due.is("code 0", x.exchange(0, Bench.REDIRECT, 0, 200), GrantServer.GRANT);
        due.is("code of another", x.exchange(101, 12, 0, 200), GrantServer.GRANT);
        due.is("redirect of another", x.exchange(100, 12, 0, 200), GrantServer.GRANT);
        int[] wrongNumbers = {0, -1, 65536, 100, 101};
        for (int number : wrongNumbers) {
            due.is("number " + number, x.exchange(100, Bench.REDIRECT, 0, number), GrantServer.TAKEN);
        }
        due.is("number 65535", x.exchange(100, Bench.REDIRECT, 3, 65535), 1);
        x.login(1, 6);
        due.is("number of a refresh token", x.exchange(101, 12, 0, 65535), GrantServer.TAKEN);
        due.is("a refresh token is no code", x.exchange(65535, 12, 0, 200), GrantServer.GRANT);
        due.is("number of an access token, audience 0", x.exchange(101, 12, 0, 1), 2);
    }

    private static void exchangeRefusesInOrder() {
        GrantServer x = Bench.server();
        x.authorize(0, Bench.REDIRECT, 1, 0, 100);
        due.is("no such code, wrong audience", x.exchange(99, 0, 4, 0), GrantServer.NONE);
        due.is("wrong redirect, wrong number", x.exchange(100, 0, 0, 0), GrantServer.GRANT);
        x.key('a');
        due.is("wrong challenge, wrong number", x.exchange(100, Bench.REDIRECT, 0, 0), GrantServer.GRANT);
        x.take(false);
        x.exchange(100, Bench.REDIRECT, 0, 200);
        due.is("spent, wrong audience", x.exchange(100, Bench.REDIRECT, 4, 201), GrantServer.NONE);
        due.yes("a refusal before that revokes nothing", x.active(1, 200));
        x.login(0, -1);
        due.is("spent, wrong audience, nobody logged in", x.exchange(100, 0, 4, 201), GrantServer.LOGIN);
        due.yes("nor does this one", x.active(1, 200));
        x.login(0, Bench.SECRET);
        due.is("spent, all else wrong", x.exchange(100, 0, 0, 0), GrantServer.GRANT);
        due.no("but this one does", x.active(1, 200));
    }

    private static void exchangeNeedsTheChallenge() {
        String[] texts = {"", "a", "ab", "A long verifier, with 0123456789 ~"};
        for (String text : texts) {
            GrantServer x = Bench.server();
            x.authorize(0, Bench.REDIRECT, 1, Bench.challengeOf(text), 100);
            Bench.type(x, text + "!");
            due.is("other text than " + text, x.exchange(100, Bench.REDIRECT, 0, 200), GrantServer.GRANT);
            Bench.type(x, text);
            due.is("the text " + text, x.exchange(100, Bench.REDIRECT, 0, 200), 1);
            due.is("the input stays", Bench.text(x, false), text);
        }
    }

    private static void exchangeHoldsToTheEnd() {
        GrantServer x = Bench.server();
        x.authorize(0, Bench.REDIRECT, 1, 0, 100);
        x.authorize(0, Bench.REDIRECT, 1, 0, 101);
        x.tick(9);
        due.is("one tick before the end", x.exchange(100, Bench.REDIRECT, 0, 200), 1);
        x.tick(1);
        due.is("at the end", x.exchange(101, Bench.REDIRECT, 0, 201), GrantServer.GRANT);
        due.is("at the end, number not free", x.exchange(101, Bench.REDIRECT, 0, 200), GrantServer.GRANT);
        due.is("active tokens", x.count(2, true), 1);
    }

    private static void spentCodeRevokesItsFamily() {
        int[] waits = {0, 9, 10, 59};
        for (int wait : waits) {
            GrantServer x = Bench.exchanged(3);
            x.refresh(200, 1, 201);
            x.tick(wait);
            String before = Bench.text(x, true);
            due.is("again after " + wait, x.exchange(100, Bench.REDIRECT, 1, 202), GrantServer.GRANT);
            due.is("active refresh tokens", x.count(1, true), 0);
            due.is("active access tokens", x.count(2, true), 0);
            due.is("refresh tokens", x.count(1, false), 2);
            due.is("access tokens", x.count(2, false), 2);
            due.is("the output stays", Bench.text(x, true), before);
            due.is("refresh of a revoked one", x.refresh(201, 0, 203), GrantServer.GRANT);
        }
    }

    private static void spentCodeOfAnotherRevokesNothing() {
        GrantServer x = Bench.exchanged(3);
        x.client(6, 12, 15);
        x.login(1, 6);
        due.is("spent code of another", x.exchange(100, Bench.REDIRECT, 1, 202), GrantServer.GRANT);
        due.is("active refresh tokens", x.count(1, true), 1);
        due.is("active access tokens", x.count(2, true), 1);
    }

    private static void spentCodeRevokesOnlyItsFamily() {
        GrantServer x = Bench.exchanged(3);
        x.authorize(0, Bench.REDIRECT, 1, 0, 101);
        x.authorize(0, Bench.REDIRECT, 1, 0, 102);
        x.exchange(101, Bench.REDIRECT, 2, 201);
        x.exchange(100, Bench.REDIRECT, 1, 202);
        due.no("refresh token of the family", x.active(1, 200));
        due.no("access token of the family", x.active(2, 1));
        due.yes("refresh token of another family", x.active(1, 201));
        due.yes("access token of another family", x.active(2, 2));
        due.yes("a code without a family", x.active(0, 102));
    }

    private static void refusedExchangeChangesNothing() {
        GrantServer x = Bench.server();
        x.authorize(0, Bench.REDIRECT, 1, 0, 100);
        Bench.type(x, "kept");
        x.wrap();
        String output = Bench.text(x, true);
        x.exchange(100, Bench.REDIRECT, 0, 200);
        x.take(false);
        x.exchange(100, 0, 0, 200);
        x.exchange(100, Bench.REDIRECT, 0, 0);
        due.is("output", Bench.text(x, true), output);
        due.yes("the code is active", x.active(0, 100));
        due.is("refresh tokens", x.count(1, false), 0);
        due.is("access tokens", x.count(2, false), 0);
        due.is("access tokens are numbered from 1", x.exchange(100, Bench.REDIRECT, 0, 200), 1);
    }

    private static void refreshTokensFillTheRoom() {
        GrantServer x = new GrantServer(1, 1000, 1, 1000);
        x.client(0, 0, 1);
        x.login(0, 0);
        x.authorize(0, 0, 1, 0, 1);
        for (int i = 0; i < 24; i++) {
            due.is("tokens " + i, i == 0 ? x.exchange(1, 0, 0, 100) : x.refresh(99 + i, 0, 100 + i), i + 1);
            x.tick(1);
            x.sweep();
        }
        due.is("refresh tokens", x.count(1, false), 24);
        due.is("access tokens", x.count(2, false), 0);
        x.authorize(0, 0, 1, 0, 2);
        due.is("exchange, number not free", x.exchange(2, 0, 0, 100), GrantServer.TAKEN);
        due.is("exchange", x.exchange(2, 0, 0, 200), GrantServer.FULL);
        due.is("refresh, number not free", x.refresh(123, 0, 100), GrantServer.TAKEN);
        due.is("refresh, scopes not the family's", x.refresh(123, 2, 200), GrantServer.SCOPE);
        due.is("refresh", x.refresh(123, 0, 200), GrantServer.FULL);
        due.yes("the code is active", x.active(0, 2));
        due.yes("the refresh token is active", x.active(1, 123));
    }

    private static void accessTokensFillTheRoom() {
        GrantServer x = new GrantServer(1, 1000, 1000, 1);
        x.client(0, 0, 1);
        x.login(0, 0);
        for (int number = 1; number <= 16; number++) {
            x.authorize(0, 0, 1, 0, number);
        }
        for (int number = 1; number <= 15; number++) {
            x.tick(1);
            x.sweep();
            due.is("exchange of code " + number, x.exchange(number, 0, 0, 100), number);
        }
        for (int i = 1; i <= 9; i++) {
            due.is("refresh " + i, x.refresh(99 + i, 0, 100 + i), 15 + i);
        }
        due.is("refresh tokens", x.count(1, false), 10);
        due.is("access tokens", x.count(2, false), 24);
        due.is("refresh, number not free", x.refresh(109, 0, 108), GrantServer.TAKEN);
        due.is("refresh", x.refresh(109, 0, 200), GrantServer.FULL);
        due.yes("the refresh token is active", x.active(1, 109));
        due.is("exchange, number not free", x.exchange(16, 0, 0, 16), GrantServer.TAKEN);
        due.is("exchange", x.exchange(16, 0, 0, 200), GrantServer.FULL);
        due.yes("the code is active", x.active(0, 16));
        x.revoke(2, 1);
        due.is("a revoked token has room", x.exchange(16, 0, 0, 200), GrantServer.FULL);
        x.tick(984);
        due.is("sweep at 999", x.sweep(), 10);
        due.is("exchange at 999", x.exchange(16, 0, 0, 200), GrantServer.FULL);
    }
}
