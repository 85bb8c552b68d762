/**
 * "What a call is refused for is looked at in the order in which it is named there": each call that
 * can be refused for several reasons, with every mixture of them at once, and with none.
 */
public final class OrderTest {
    private static final int FREE = 999;
    private static final Due due = new Due("OrderTest");

    public static void main(String[] args) {
        clientRefuses();
        authorizeRefuses();
        exchangeRefuses();
        refreshRefuses();
        revokeRefuses();
        textsRefuse();
        checkAnswers();
        due.end();
    }

    /** Promise 2: both reasons have the same answer, so that only taking the call could be wrong. */
    private static void clientRefuses() {
        for (int there = 0; there <= 4; there++) {
            for (int scopes : new int[] {-1, 0, 1, 15, 16}) {
                GrantServer x = new GrantServer(1, 1, 1, 1);
                for (int i = 0; i < there; i++) {
                    x.client(i, i, 1);
                }
                boolean fine = there < 4 && scopes >= 1 && scopes <= 15;
                due.is("client with scopes " + scopes + ", " + there + " there",
                    x.client(9, 9, scopes), fine ? there : GrantServer.NONE);
            }
        }
    }

    /** Promise 4, with the sixteenth code still to be had, or not. */
    private static void authorizeRefuses() {
        for (int client : new int[] {0, -1, 2}) {
            for (int challenge : new int[] {0, (1 << 30) - 1, -1, 1 << 30}) {
                for (int redirect : new int[] {11, 12}) {
                    for (int scopes : new int[] {5, 0, 16, 2, 7}) {
                        for (int number : new int[] {FREE, 0, 65536, 100, 101, 200}) {
                            authorizeRefuses(client, challenge, redirect, scopes, number, 15);
                            authorizeRefuses(client, challenge, redirect, scopes, number, 16);
                        }
                    }
                }
            }
        }
    }

    private static void authorizeRefuses(int client, int challenge, int redirect, int scopes,
            int number, int codes) {
        GrantServer x = new GrantServer(1, 50, 60, 70);
        x.client(5, 11, 5);
        x.client(6, 12, 15);
        x.login(0, 5);
        x.authorize(0, 11, 5, 0, 100);
        x.exchange(100, 11, 1, 200);
        for (int i = 1; i < codes; i++) {
            x.authorize(1, 12, 1, 0, 100 + i);
        }
        int want = 0;
        if (client != 0 || challenge < 0 || challenge == 1 << 30) {
            want = GrantServer.NONE;
        } else if (redirect != 11) {
            want = GrantServer.REDIRECT;
        } else if (scopes != 5) {
            want = GrantServer.SCOPE;
        } else if (number != FREE) {
            want = GrantServer.TAKEN;
        } else if (codes == 16) {
            want = GrantServer.FULL;
        }
        due.is("authorize(" + client + ", " + redirect + ", " + scopes + ", " + challenge + ", "
            + number + ") with " + codes + " codes",
            x.authorize(client, redirect, scopes, challenge, number), want);
        due.is("codes then", x.count(0, false), want == 0 ? 16 : codes);
    }

    /**
     * Room for tokens. Client 1 has the first refresh token 1000 and access token 1, from code 4;
     * client 0 has all others, from code 1: refresh tokens 1001, 1002 .., spent but for the last.
     * Codes 2 of client 0 and 3 of client 1 are not spent. Nobody's code ends before 500. The
     * family's scopes are 5.
     */
    private static GrantServer tokens(boolean refreshFull, boolean accessFull) {
        // The one kind's first token has a short life and is swept where there shall be one fewer.
        int shortLife = 100;
        GrantServer x = new GrantServer(7, 500, refreshFull && !accessFull ? shortLife : 1000,
            accessFull && !refreshFull ? shortLife : 1000);
        x.client(5, 11, 5);
        x.client(6, 12, 15);
        for (int code = 1; code <= 4; code++) {
            x.authorize(code / 3, 11 + code / 3, 5, 0, code);
        }
        x.login(1, 6);
        x.exchange(4, 12, 2, 1000);
        x.tick(shortLife / 2);
        x.login(0, 5);
        x.exchange(1, 11, 1, 1001);
        int last = refreshFull || accessFull ? 1023 : 1022;
        for (int number = 1002; number <= last; number++) {
            x.refresh(number - 1, 0, number);
        }
        x.tick(shortLife / 2);
        x.sweep();
        due.is("refresh tokens", x.count(1, false), refreshFull ? 24 : 23);
        due.is("access tokens", x.count(2, false), accessFull ? 24 : 23);
        return x;
    }

    private static int lastRefreshToken(GrantServer x) {
        return x.active(1, 1023) ? 1023 : 1022;
    }

    private static int activeTokens(GrantServer x) {
        return x.count(1, true) + x.count(2, true);
    }

    /** Promise 5. The codes: 2 can be exchanged, 9 is none, 3 and 4 are another's, 1 is spent. */
    private static void exchangeRefuses() {
        for (int room = 0; room < 4; room++) {
            for (int code : new int[] {2, 9, 3, 4, 1}) {
                for (int state = 0; state < 16; state++) {
                    for (int audience : new int[] {3, -1, 4}) {
                        for (int number : new int[] {FREE, 0, 65536, 2, 3, 1022}) {
                            exchangeRefuses(room, code, state, audience, number);
                        }
                    }
                }
            }
        }
    }

    /** The bits of state: nobody is logged in, the code has ended, redirect wrong, challenge wrong. */
    private static void exchangeRefuses(int room, int code, int state, int audience, int number) {
        GrantServer x = tokens((room & 1) != 0, (room & 2) != 0);
        x.login((state & 1) != 0 ? -1 : 0, 5);
        x.tick((state & 2) != 0 ? 400 : 399);
        int redirect = (state & 4) != 0 ? 12 : 11;
        Bench.type(x, (state & 8) != 0 ? " " : "");
        int before = activeTokens(x);
        int others = x.active(1, 1000) ? 1 : 0;
        others += x.active(2, 1) ? 1 : 0;
        int made = room == 0 ? 23 : 24;
        int after = before;
        int want;
        if ((state & 1) != 0) {
            want = GrantServer.LOGIN;
        } else if (audience != 3) {
            want = GrantServer.NONE;
        } else if (code != 2) {
            want = GrantServer.GRANT;
            after = code == 1 ? others : before;
        } else if (state != 0) {
            want = GrantServer.GRANT;
        } else if (number != FREE) {
            want = GrantServer.TAKEN;
        } else if (room != 0) {
            want = GrantServer.FULL;
        } else {
            want = made + 1;
            after = before + 2;
        }
        String told = "exchange(" + code + ", " + redirect + ", " + audience + ", " + number
            + "), room " + room + ", state " + state;
        due.is(told, x.exchange(code, redirect, audience, number), want);
        due.is("active tokens after " + told, activeTokens(x), after);
        due.is("code 2 is active after " + told, x.active(0, 2), (state & 2) == 0 && want < 0);
    }

    /** Promise 6. The tokens: the last of the chain, 9 is none, 1000 another's, 1005 spent. */
    private static void refreshRefuses() {
        for (int room = 0; room < 4; room++) {
            for (int token : new int[] {0, 9, 1000, 1005}) {
                for (int state = 0; state < 8; state++) {
                    for (int scopes : new int[] {0, 1, 5, -1, 16, 2, 7}) {
                        for (int number : new int[] {FREE, 0, 65536, 2, 1, 1005, 1022}) {
                            refreshRefuses(room, token, state, scopes, number);
                        }
                    }
                }
            }
        }
    }

    /** The bits of state: nobody is logged in, all tokens have ended, the family is revoked. */
    private static void refreshRefuses(int room, int which, int state, int scopes, int number) {
        GrantServer x = tokens((room & 1) != 0, (room & 2) != 0);
        int token = which == 0 ? lastRefreshToken(x) : which;
        if ((state & 4) != 0) {
            x.revoke(1, 1005);
        }
        x.login((state & 1) != 0 ? -1 : 0, 5);
        x.tick((state & 2) != 0 ? 1000 : 49);
        int before = activeTokens(x);
        int others = x.active(1, 1000) ? 1 : 0;
        others += x.active(2, 1) ? 1 : 0;
        int made = room == 0 ? 23 : 24;
        int after = before;
        int want;
        if ((state & 1) != 0) {
            want = GrantServer.LOGIN;
        } else if (which != 0) {
            want = GrantServer.GRANT;
            after = which == 1005 ? others : before;
        } else if (state != 0) {
            want = GrantServer.GRANT;
        } else if (scopes != 0 && scopes != 1 && scopes != 5) {
            want = GrantServer.SCOPE;
        } else if (number != FREE) {
            want = GrantServer.TAKEN;
        } else if (room != 0) {
            want = GrantServer.FULL;
        } else {
            want = made + 1;
            after = before + 1;
        }
        String told = "refresh(" + token + ", " + scopes + ", " + number + "), room " + room
            + ", state " + state;
        due.is(told, x.refresh(token, scopes, number), want);
        due.is("active tokens after " + told, activeTokens(x), after);
    }

    /** Promise 7: 1000 and access token 1 are another's, 9 and access token 99 are none. */
    private static void revokeRefuses() {
        for (int kind : new int[] {-1, 0, 1, 2, 3}) {
            for (int number : new int[] {1, 2, 99, 1000, 1001, 1022}) {
                for (int client : new int[] {-1, 0, 1}) {
                    revokeRefuses(kind, number, client);
                }
            }
        }
    }

    private static void revokeRefuses(int kind, int number, int client) {
        GrantServer x = tokens(false, false);
        x.login(client, 5 + client);
        int before = activeTokens(x);
        int want = 0;
        if (client < 0) {
            want = GrantServer.LOGIN;
        } else if (kind != 1 && kind != 2) {
            want = GrantServer.NONE;
        } else if (kind == 1 && number >= 1000) {
            boolean own = number == 1000 == (client == 1);
            want = own ? client == 1 ? 2 : before - 2 : 0;
        } else if (kind == 2 && number <= 2) {
            want = number == 1 == (client == 1) ? 1 : 0;
        }
        String told = "revoke(" + kind + ", " + number + ") by " + client;
        due.is(told, x.revoke(kind, number), want);
        due.is("active tokens after " + told, activeTokens(x), before - Math.max(0, want));
    }

    /** Promises 10 and 11: a character that is none, in a place that is none. */
    private static void textsRefuse() {
        for (int size : new int[] {0, 1, 119, 120}) {
            for (int code : new int[] {31, 32, 126, 127}) {
                boolean writable = code == 32 || code == 126;
                for (int place : new int[] {-1, 0, size - 1, size}) {
                    GrantServer x = new GrantServer(1, 1, 1, 1);
                    Bench.type(x, "m".repeat(size));
                    due.is("alter " + place + " of " + size + " to " + code,
                        x.alter(place, (char) code), writable && place >= 0 && place < size);
                    due.is("key " + code + " behind " + size, x.key((char) code),
                        writable && size < 120);
                }
            }
        }
    }

    /** Promise 9: a text with any of the seven faults; the first that it has is the answer. */
    private static void checkAnswers() {
        int[] answers = {
            GrantServer.FORM, GrantServer.FORGED, GrantServer.CLAIMS, GrantServer.EXPIRED,
            GrantServer.DEAD, GrantServer.AUDIENCE, GrantServer.SCOPE, 1,
        };
        for (int faults = 0; faults < 1 << 7; faults++) {
            int want = answers[Math.min(7, Integer.numberOfTrailingZeros(faults))];
            for (int variant = 0; variant < 2; variant++) {
                GrantServer x = Scene.busy();
                Bench.type(x, faulty(faults, variant == 0));
                int audience = (faults & 32) != 0 ? 1 : 2;
                int scopes = (faults & 64) != 0 ? 2 : 4;
                due.is("check of a text with faults " + faults, x.check(audience, scopes), want);
            }
        }
    }

    /** Of access token 1 of the busy scene: sub 1, aud 2, exp 80, jti 1, scope 12; the time is 7. */
    private static String faulty(int faults, boolean first) {
        int end = (faults & 8) == 0 ? 8 : first ? 7 : 0;
        int number = (faults & 16) == 0 ? 1 : first ? 3 : 6;
        String claims = Bench.claims(1, 2, end, number, 12);
        if ((faults & 4) != 0) {
            claims = first ? claims.substring(1) : claims.replace("12}", "012}");
        }
        String text = Bench.wrapped(-9, claims);
        if ((faults & 2) != 0) {
            text = Bench.wrapped(first ? 9 : -10, claims);
        }
        if ((faults & 1) != 0) {
            text = first ? text + "A" : text.replace('.', '!');
        }
        return text;
    }
}
