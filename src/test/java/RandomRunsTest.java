import java.util.ArrayList;
import java.util.List;
import java.util.Random;

/** All promises: runs of at most 512 calls, drawn with fixed seeds, each answer held against PlainModel. */
public final class RandomRunsTest {
    private static final int RUNS = 4000;
    private static final int CALLS = 512;
    private static final int LONGEST_STEP = 64;
    private static final int ENOUGH_WRONG = 20;
    private static final int[] ODD = {
        -1, 0, 1, 3, 4, 15, 16, 23, 24, 120, 65535, 65536, 1 << 30, (1 << 30) - 1,
        Integer.MIN_VALUE, Integer.MAX_VALUE,
    };
    private static final String NEAR_CLAIMS = "{}\":, 0123456789subadexpjtico.";

    private final Due due;
    private final Random random;
    private final String run;
    private final GrantServer real;
    private final PlainModel model;
    private final List<Integer> codes = new ArrayList<>();
    private final List<Integer> tokens = new ArrayList<>();
    /** One argument in so many is drawn wrong; the rarer, the deeper a run gets. */
    private final int slip;
    /** The share of the steps that only play with texts. */
    private final int texts;
    private int accessTokens = 0;
    private int time = 0;
    private int calls = 0;

    private RandomRunsTest(Due due, int seed) {
        this.due = due;
        random = new Random(seed);
        slip = 5 << random.nextInt(6);
        texts = 5 + random.nextInt(50);
        int key = random.nextInt(3) == 0 ? odd() : random.nextInt();
        int[] lives = new int[3];
        for (int i = 0; i < 3; i++) {
            lives[i] = random.nextInt(8) == 0 ? odd() : 1 + random.nextInt(5 << random.nextInt(8));
        }
        run = "run " + seed;
        real = new GrantServer(key, lives[0], lives[1], lives[2]);
        model = new PlainModel(key, lives[0], lives[1], lives[2]);
    }

    public static void main(String[] args) {
        Due due = new Due("RandomRunsTest");
        for (int seed = 0; seed < RUNS && due.wrong() < ENOUGH_WRONG; seed++) {
            new RandomRunsTest(due, seed).go();
        }
        due.end();
    }

    private void go() {
        for (int i = 0; i < 1 + random.nextInt(2); i++) {
            client(i, i, slips() ? 1 + random.nextInt(15) : 15);
        }
        login(0, 0);
        while (calls + LONGEST_STEP <= CALLS && due.wrong() < ENOUGH_WRONG) {
            step();
        }
    }

    private void step() {
        if (random.nextInt(100) < texts) {
            stepWithTexts();
            return;
        }
        int which = random.nextInt(100);
        if (which < 18) {
            authorize();
        } else if (which < 36) {
            exchange();
        } else if (which < 60) {
            refresh();
        } else if (which < 64) {
            revoke();
        } else if (which < 76) {
            look();
        } else if (which < 84) {
            stepWithTime();
        } else if (which < 90) {
            stepWithClients();
        } else if (which < 98) {
            is("take(true)", real.take(true), model.take(true));
            check();
        } else {
            typeClaims();
        }
    }

    private void authorize() {
        int client = small(2);
        int redirect = slips() ? odd() : client;
        int scopes = small(16);
        int challenge = slips() ? odd() : model.challenge();
        int number = number();
        int answer = model.authorize(client, redirect, scopes, challenge, number);
        if (answer == 0) {
            codes.add(number);
        }
        is("authorize(" + client + ", " + redirect + ", " + scopes + ", " + challenge + ", " + number + ")",
            real.authorize(client, redirect, scopes, challenge, number), answer);
    }

    private void exchange() {
        int code = recent(codes);
        int redirect = small(2);
        int audience = small(4);
        int number = number();
        int answer = model.exchange(code, redirect, audience, number);
        keepToken(answer, number);
        is("exchange(" + code + ", " + redirect + ", " + audience + ", " + number + ")",
            real.exchange(code, redirect, audience, number), answer);
    }

    private void refresh() {
        int token = recent(tokens);
        int scopes = random.nextInt(3) == 0 ? small(16) : 0;
        int number = number();
        int answer = model.refresh(token, scopes, number);
        keepToken(answer, number);
        is("refresh(" + token + ", " + scopes + ", " + number + ")",
            real.refresh(token, scopes, number), answer);
    }

    private void keepToken(int answer, int number) {
        if (answer > 0) {
            tokens.add(number);
            accessTokens = answer;
        }
    }

    private void revoke() {
        int kind = slips() ? odd() : random.nextInt(4) == 0 ? 1 : 2;
        int number = numberOf(kind);
        is("revoke(" + kind + ", " + number + ")", real.revoke(kind, number), model.revoke(kind, number));
    }

    private void look() {
        int kind = small(3);
        int number = numberOf(kind);
        is("active(" + kind + ", " + number + ")", real.active(kind, number), model.active(kind, number));
        boolean active = random.nextBoolean();
        is("count(" + kind + ", " + active + ")", real.count(kind, active), model.count(kind, active));
    }

    private void stepWithTime() {
        if (random.nextInt(3) == 0) {
            is("sweep()", real.sweep(), model.sweep());
            return;
        }
        int n = random.nextInt(200) == 0 ? random.nextInt(12000) : small(6);
        boolean answer = model.tick(n);
        time += answer ? n : 0;
        is("tick(" + n + ")", real.tick(n), answer);
    }

    private void stepWithClients() {
        if (random.nextInt(20) == 0) {
            client(small(3), small(3), small(16));
        } else {
            int client = slips() ? odd() : random.nextInt(2);
            login(client, slips() ? odd() : client);
        }
    }

    private void stepWithTexts() {
        int place = random.nextInt(4) == 0 ? odd() : random.nextInt(90);
        char c = random.nextInt(6) == 0 ? (char) random.nextInt(300) : near();
        boolean yes = random.nextInt(4) > 0;
        switch (random.nextInt(9)) {
            case 0 -> is("key(" + (int) c + ")", real.key(c), model.key(c));
            case 1 -> is("alter(" + place + ", " + (int) c + ")", real.alter(place, c), model.alter(place, c));
            case 2, 3 -> is("take(" + yes + ")", real.take(yes), model.take(yes));
            case 4 -> is("letter(" + yes + ", " + place + ")", real.letter(yes, place), model.letter(yes, place));
            case 5 -> is("challenge()", real.challenge(), model.challenge());
            case 6 -> is("wrap()", real.wrap(), model.wrap());
            default -> check();
        }
    }

    private void check() {
        int audience = small(4);
        int scopes = random.nextInt(6) == 0 ? random.nextInt() : random.nextInt(4);
        is("check(" + audience + ", " + scopes + ")",
            real.check(audience, scopes), model.check(audience, scopes));
    }

    /** A text that is claims, or nearly so, typed, wrapped and checked. */
    private void typeClaims() {
        StringBuilder text = new StringBuilder(Bench.claims(random.nextInt(4), random.nextInt(4),
            time + random.nextInt(9), Math.max(0, accessTokens - random.nextInt(3)), random.nextInt(32)));
        for (int i = random.nextInt(6); i > 0; i--) {
            text.insert(random.nextInt(text.length() + 1), random.nextInt(6) == 0 ? near() : ' ');
        }
        is("take(false)", real.take(false), model.take(false));
        for (char c : text.toString().toCharArray()) {
            is("key(" + (int) c + ")", real.key(c), model.key(c));
        }
        is("wrap()", real.wrap(), model.wrap());
        is("take(true)", real.take(true), model.take(true));
        for (int i = 0; i < 4; i++) {
            check();
        }
    }

    private void client(int secret, int redirect, int scopes) {
        is("client(" + secret + ", " + redirect + ", " + scopes + ")",
            real.client(secret, redirect, scopes), model.client(secret, redirect, scopes));
    }

    private void login(int client, int secret) {
        is("login(" + client + ", " + secret + ")", real.login(client, secret), model.login(client, secret));
    }

    private boolean slips() {
        return random.nextInt(slip) == 0;
    }

    private int odd() {
        return ODD[random.nextInt(ODD.length)];
    }

    private int small(int most) {
        return slips() ? odd() : random.nextInt(most);
    }

    private int number() {
        return slips() ? 1 + random.nextInt(60) : random.nextInt(40) == 0 ? odd() : 1 + random.nextInt(65535);
    }

    /** Mostly the last one, which is likely to be good still. */
    private int recent(List<Integer> numbers) {
        if (numbers.isEmpty() || slips()) {
            return number();
        }
        int back = slips() ? random.nextInt(numbers.size()) : 0;
        return numbers.get(numbers.size() - 1 - back);
    }

    private int numberOf(int kind) {
        if (kind == 2 && accessTokens > 0 && !slips()) {
            return 1 + random.nextInt(accessTokens);
        }
        return recent(kind == 0 ? codes : tokens);
    }

    private char near() {
        return NEAR_CLAIMS.charAt(random.nextInt(NEAR_CLAIMS.length()));
    }

    private void is(String call, long got, long want) {
        calls++;
        due.is(run + ", call " + calls + ": " + call, got, want);
    }

    private void is(String call, boolean got, boolean want) {
        is(call, got ? 1 : 0, want ? 1 : 0);
    }
}
