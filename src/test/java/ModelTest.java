import java.lang.reflect.Method;
import java.util.Arrays;
import java.util.Random;

/** Runs of 512 random calls (always the same ones), each answer beside that of the Model. */
public final class ModelTest {
    private static final int RUNS = 6000;
    private static final int CALLS = 512;
    private static final int[] FAR = {Integer.MIN_VALUE, -1000001, -2, 41, 256, 65536, Integer.MAX_VALUE};

    /**
     * Each call by its name, and what its arguments are drawn from: a VISITOR, a set of them, a PERSON, a ROOM, a
     * MINUTE, a set of them, or so many numbers.
     */
    private static final String[] CALLS_OF_FACE = {
        "row 8 3 12", "set 3 11 300", "copy 3 4 3 4 11", "drop 8", "feed 256", "house", "fault", "undo",
        "buy v r m", "back v r m", "curtain r r m", "write m", "visitor v 3", "seat r m 3", "price v r m",
        "looked V m", "seen V p m", "known V p", "canBe V p r m", "suspects V r M", "settled m",
        "cheapest v m 2", "nextSeat v r M", "followed v p 2", "crowd v m", "told v p m", "believed p m",
        "account V p 3 3", "met p p", "soldOut 6", "haunted", "image 2", "restore 2",
        "kind v", "as v 6", "ask v 2", "trace 8", "count 9", "status"};
    private static final int ROW = 0, SET = 1, DROP = 3, FEED = 4, HOUSE = 5, BUY = 8, SOLD_OUT = 29, RESTORE = 32;

    private static final String[][] WORDS = new String[CALLS_OF_FACE.length][];
    private static final Method[] OF_PROGRAM = new Method[CALLS_OF_FACE.length];
    private static final Method[] OF_MODEL = new Method[CALLS_OF_FACE.length];

    private final Random chance;
    private final SeenAgain x = new SeenAgain();
    private final Model model = new Model();
    private final StringBuilder log = new StringBuilder();
    private int calls;
    private boolean wrong;

    private ModelTest(long seed) {
        chance = new Random(seed);
    }

    public static void main(String[] args) throws ReflectiveOperationException {
        for (int i = 0; i < CALLS_OF_FACE.length; i++) {
            WORDS[i] = CALLS_OF_FACE[i].split(" ");
            Class<?>[] ints = new Class<?>[WORDS[i].length - 1];
            Arrays.fill(ints, int.class);
            OF_PROGRAM[i] = SeenAgain.class.getMethod(WORDS[i][0], ints);
            OF_MODEL[i] = Model.class.getDeclaredMethod(WORDS[i][0], ints);
        }
        for (int seed = 0; seed < RUNS; seed++) {
            ModelTest run = new ModelTest(seed);
            run.allCalls();
            Check.due("run " + seed + (run.wrong ? run.log : ""), run.wrong ? 1 : 0, 0);
        }
        Check.end();
    }

    private void allCalls() throws ReflectiveOperationException {
        boolean buysOften = chance.nextInt(3) == 0;
        if (chance.nextInt(8) > 0) {
            tell();
        }
        while (calls < CALLS && !wrong) {
            int call = buysOften && chance.nextBoolean() ? BUY : chance.nextInt(CALLS_OF_FACE.length);
            boolean rare = call == DROP || call == FEED || call == HOUSE || call == RESTORE;
            if (chance.nextInt(160) == 0) {
                tell();
            } else if (!rare || chance.nextInt(8) == 0) {
                compare(call, arguments(call));
            }
        }
    }

    private void tell() throws ReflectiveOperationException {
        for (char letter : text().toCharArray()) {
            compare(FEED, (int) letter);
        }
        compare(HOUSE);
    }

    private void compare(int call, Object... arguments) throws ReflectiveOperationException {
        if (wrong || calls == CALLS) {
            return;
        }
        calls++;
        int got = (int) OF_PROGRAM[call].invoke(x, arguments);
        int want = (int) OF_MODEL[call].invoke(model, arguments);
        log.append("\n  ").append(WORDS[call][0]).append(Arrays.toString(arguments));
        log.append(' ').append(got).append(", Model ").append(want);
        wrong = got != want;
    }

    private Object[] arguments(int call) {
        Object[] all = new Object[WORDS[call].length - 1];
        for (int i = 0; i < all.length; i++) {
            all[i] = small(end(WORDS[call][i + 1]));
        }
        if (call == ROW && chance.nextInt(3) > 0) {
            all[2] = 8 + chance.nextInt(3);
        }
        if (call == SET) {
            all[2] = chance.nextInt(9) == 0 ? chance.nextInt() : small(6) - 1;
        }
        if (call == SOLD_OUT) {
            all[0] = (int) all[0] - 1;
        }
        return all;
    }

    private int end(String word) {
        Model.Home home = model.home;
        int visitors = home == null ? 4 : home.sorts.length();
        switch (word.charAt(0)) {
            case 'v': return Math.max(1, visitors);
            case 'V': return 1 << visitors;
            case 'p': return home == null ? 4 : Math.max(1, home.people.size());
            case 'r': return home == null ? 6 : home.rooms;
            case 'm': return 8;
            case 'M': return 256;
            default: return Integer.parseInt(word);
        }
    }

    private int small(int end) {
        int lot = chance.nextInt(160);
        if (lot == 0) {
            return FAR[chance.nextInt(FAR.length)];
        }
        return lot == 1 ? end : lot == 2 ? -1 : chance.nextInt(end);
    }

    private String text() {
        StringBuilder t = new StringBuilder();
        int rooms = 2 + chance.nextInt(5);
        t.append('h').append(rooms).append(',').append(1 + chance.nextInt(5)).append(',');
        t.append(chance.nextInt(3) == 0 ? chance.nextInt(21) : chance.nextInt(5)).append(';');
        for (int n = chance.nextInt(10); n > 0; n--) {
            int a = chance.nextInt(rooms);
            t.append('g').append(a).append(',').append((a + 1 + chance.nextInt(rooms - 1)) % rooms).append(';');
        }
        for (int n = chance.nextInt(5); n > 0; n--) {
            t.append('r');
            for (int m = 0; m < 8; m++) {
                t.append(chance.nextInt(rooms)).append(m < 7 ? ',' : ';');
            }
        }
        for (int n = chance.nextInt(8) == 0 ? 0 : 1 + chance.nextInt(4); n > 0; n--) {
            t.append("adltw".charAt(chance.nextInt(5))).append(chance.nextInt(100)).append(';');
        }
        if (chance.nextInt(4) == 0) {
            spoil(t);
        }
        return t.toString();
    }

    private void spoil(StringBuilder t) {
        int place = chance.nextInt(t.length());
        char sign = "0123456789,;hgradltwxA \377".charAt(chance.nextInt(24));
        switch (chance.nextInt(4)) {
            case 0:
                t.deleteCharAt(place);
                break;
            case 1:
                t.insert(place, sign);
                break;
            case 2:
                t.setCharAt(place, sign);
                break;
            default:
                t.append(new String[] {"t5;", "g0,1;", "r0,0,0,0,0,0,0,0;", "123"}[chance.nextInt(4)]);
                break;
        }
    }
}
