/**
 * Servers in the midst of their work. A scene is built anew for each question, so that it can be
 * asked in ways that change it, and so that no object comes to its 512th call.
 */
final class Scene {
    static final int CODE_LIFE = 50;
    static final int ACCESS_LIFE = 80;
    static final int REFRESH_LIFE = 60;

    /** All numbers that a code or a refresh token of busy() has, and some that none has. */
    static final int[] NUMBERS = {
        1, 99, 100, 101, 110, 111, 120, 130, 140, 200, 201, 202, 210, 220, 240, 65535,
    };

    private Scene() {
    }

    /**
     * Time 7. Client 0 (secret 5, redirect 11, scopes 7) is logged in; client 1 (6, 12, 15) is not.
     * Codes: 100, 110, 120, 140 spent, 130 not (end 50); 101 of client 0, with the challenge of ab,
     * and 111 of client 1, with that of none (end 53). Families: of code 100 with 200 (spent), 201,
     * access tokens 2 and 5; of 110, client 1's, with 210 and 1; of 120, revoked, with 220 and 3; of
     * 140 with 240 and 4. Refresh tokens end at 60 (201 at 63), access tokens at 80 (5 at 83). The
     * input is ab, the output the text of access token 5.
     */
    static GrantServer busy() {
        GrantServer x = new GrantServer(-9, CODE_LIFE, ACCESS_LIFE, REFRESH_LIFE);
        x.client(5, 11, 7);
        x.client(6, 12, 15);
        x.authorize(0, 11, 7, 0, 100);
        x.authorize(1, 12, 12, 0, 110);
        x.authorize(0, 11, 3, 0, 120);
        x.authorize(0, 11, 1, 0, 130);
        x.authorize(0, 11, 2, 0, 140);
        x.login(1, 6);
        x.exchange(110, 12, 2, 210);
        x.login(0, 5);
        x.exchange(100, 11, 1, 200);
        x.exchange(120, 11, 3, 220);
        x.exchange(140, 11, 0, 240);
        x.tick(3);
        x.refresh(200, 5, 201);
        x.revoke(1, 220);
        x.authorize(0, 11, 5, Bench.challengeOf("ab"), 101);
        x.authorize(1, 12, 8, 0, 111);
        x.tick(4);
        Bench.type(x, "ab");
        return x;
    }

    static GrantServer nobodyLoggedIn() {
        GrantServer x = busy();
        x.login(-1, 0);
        return x;
    }

    static GrantServer fourClients() {
        GrantServer x = busy();
        x.client(7, 13, 1);
        x.client(8, 14, 2);
        return x;
    }

    /** Time 52: the first codes have ended, 101 and 111 have not. */
    static GrantServer codesEnded() {
        GrantServer x = busy();
        x.tick(CODE_LIFE - 5);
        return x;
    }

    /** Time 62: the first refresh tokens have ended; 201 and all access tokens have not. */
    static GrantServer refreshTokensEnded() {
        GrantServer x = busy();
        x.tick(REFRESH_LIFE - 5);
        return x;
    }

    /** With nine codes more, 1001 .. 1009, there are 16. */
    static GrantServer codesFull() {
        GrantServer x = busy();
        for (int i = 1; i <= 9; i++) {
            x.authorize(0, 11, 1, 0, 1000 + i);
        }
        return x;
    }

    /** With the chain 201, 1001 .. 1019 there are 24 refresh and 24 access tokens; 1019 is not spent. */
    static GrantServer tokensFull() {
        GrantServer x = busy();
        int last = 201;
        for (int i = 1; i <= 19; i++) {
            x.refresh(last, 0, 1000 + i);
            last = 1000 + i;
        }
        return x;
    }

    static GrantServer inputFull() {
        GrantServer x = busy();
        for (int i = 2; i < 120; i++) {
            x.key('q');
        }
        return x;
    }

    /** The input has 82 characters, the fewest that can't be wrapped. */
    static GrantServer inputTooLongToWrap() {
        GrantServer x = busy();
        for (int i = 2; i < 82; i++) {
            x.key('q');
        }
        return x;
    }
}
