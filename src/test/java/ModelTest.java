import java.util.Random;

/** Runs of 512 random calls (always the same ones), each answer beside that of the Model. */
public final class ModelTest {
    private static final int RUNS = 6000;
    private static final int CALLS = 512;
    private static final int[] FAR = {Integer.MIN_VALUE, -1000001, -2, 41, 256, 65536, Integer.MAX_VALUE};

    private final Random chance;
    private final SeenAgain x = new SeenAgain();
    private final Model model = new Model();
    private final StringBuilder log = new StringBuilder();
    private int calls;

    private ModelTest(long seed) {
        chance = new Random(seed);
    }

    public static void main(String[] args) {
        for (int seed = 0; seed < RUNS; seed++) {
            ModelTest run = new ModelTest(seed);
            String wrong = run.run();
            Check.due("run " + seed + wrong, wrong.isEmpty() ? 0 : 1, 0);
            if (!wrong.isEmpty()) {
                break;
            }
        }
        Check.end();
    }

    private String run() {
        int boldness = chance.nextInt(3);
        while (calls < CALLS) {
            if (calls == 0 && chance.nextInt(8) > 0 || chance.nextInt(90) == 0) {
                for (char letter : text().toCharArray()) {
                    if (calls < CALLS && !compare(4, letter, 0, 0, 0, 0)) {
                        return log.toString();
                    }
                }
                if (calls < CALLS && !compare(5, 0, 0, 0, 0, 0)) {
                    return log.toString();
                }
                continue;
            }
            int call = boldness == 0 && chance.nextInt(2) == 0 ? 8 : chance.nextInt(40);
            if ((call == 5 || call == 4) && chance.nextInt(8) > 0) {
                continue;
            }
            if (!oneCall(call)) {
                return log.toString();
            }
        }
        return "";
    }

    private boolean oneCall(int call) {
        if (call == 0) {
            return compare(call, small(8), small(3), chance.nextInt(4) == 0 ? small(41) : 8 + chance.nextInt(3), 0, 0);
        }
        if (call == 1) {
            return compare(call, small(3), small(11), chance.nextInt(9) == 0 ? chance.nextInt() : small(6) - 1, 0, 0);
        }
        if (call == 2) {
            return compare(call, small(3), small(4), small(3), small(4), small(11));
        }
        return compare(call, argument(call, 0), argument(call, 1), argument(call, 2), argument(call, 3), 0);
    }

    /** Ends of the arguments, by call: what is drawn lies in them mostly, at times one beyond. */
    private static final int[][] ENDS = {
        {}, {}, {}, {8}, {256}, {}, {}, {},
        {4, 6, 8}, {4, 6, 8}, {6, 6, 8}, {8}, {4, 3}, {6, 8, 3}, {4, 6, 8},
        {16, 8}, {16, 4, 8}, {16, 4}, {16, 4, 6, 8}, {16, 6, 256}, {8}, {4, 8, 2}, {4, 6, 256}, {4, 4, 2},
        {4, 8}, {4, 4, 8}, {4, 8}, {16, 4, 3, 3}, {4, 4}, {6}, {}, {2}, {2},
        {4}, {4, 6}, {4, 2}, {8}, {9}, {}, {}
    };

    private int argument(int call, int i) {
        return i < ENDS[call].length ? small(ENDS[call][i]) : 0;
    }

    private int small(int end) {
        int lot = chance.nextInt(160);
        if (lot == 0) {
            return FAR[chance.nextInt(FAR.length)];
        }
        return lot < 4 ? lot == 1 ? end : -lot + 1 : chance.nextInt(end);
    }

    private String text() {
        StringBuilder t = new StringBuilder();
        int rooms = 2 + chance.nextInt(5);
        t.append('h').append(rooms).append(',').append(1 + chance.nextInt(5)).append(',');
        t.append(chance.nextInt(3) == 0 ? chance.nextInt(21) : chance.nextInt(5)).append(';');
        for (int n = chance.nextInt(10); n > 0; n--) {
            int a = chance.nextInt(rooms);
            t.append('g').append(a).append(',').append((a + 1 + chance.nextInt(rooms - 1)) % rooms).append(';');
        }
        for (int n = chance.nextInt(5); n > 0; n--) {
            t.append('r');
            for (int m = 0; m < 8; m++) {
                t.append(chance.nextInt(rooms)).append(m < 7 ? ',' : ';');
            }
        }
        for (int n = chance.nextInt(8) == 0 ? 0 : 1 + chance.nextInt(4); n > 0; n--) {
            t.append("adltw".charAt(chance.nextInt(5))).append(chance.nextInt(100)).append(';');
        }
        if (chance.nextInt(4) == 0) {
            spoil(t);
        }
        return t.toString();
    }

    private void spoil(StringBuilder t) {
        int place = chance.nextInt(t.length());
        char sign = "0123456789,;hgradltwxA \377".charAt(chance.nextInt(24));
        switch (chance.nextInt(4)) {
            case 0:
                t.deleteCharAt(place);
                break;
            case 1:
                t.insert(place, sign);
                break;
            case 2:
                t.setCharAt(place, sign);
                break;
            default:
                t.append(new String[] {"t5;", "g0,1;", "r0,0,0,0,0,0,0,0;", "123"}[chance.nextInt(4)]);
                break;
        }
    }

    private boolean compare(int call, int a, int b, int c, int d, int e) {
        calls++;
        int got = ofProgram(call, a, b, c, d, e);
        int want = ofModel(call, a, b, c, d, e);
        log.append("\n  call ").append(call).append(" (").append(a).append(", ").append(b).append(", ").append(c)
            .append(", ").append(d).append(", ").append(e).append(") ").append(got).append(", Model ").append(want);
        return got == want;
    }

    private int ofProgram(int call, int a, int b, int c, int d, int e) {
        switch (call) {
            case 0: return x.row(a, b, c);
            case 1: return x.set(a, b, c);
            case 2: return x.copy(a, b, c, d, e);
            case 3: return x.drop(a);
            case 4: return x.feed(a);
            case 5: return x.house();
            case 6: return x.fault();
            case 7: return x.undo();
            case 8: return x.buy(a, b, c);
            case 9: return x.back(a, b, c);
            case 10: return x.curtain(a, b, c);
            case 11: return x.write(a);
            case 12: return x.visitor(a, b);
            case 13: return x.seat(a, b, c);
            case 14: return x.price(a, b, c);
            case 15: return x.looked(a, b);
            case 16: return x.seen(a, b, c);
            case 17: return x.known(a, b);
            case 18: return x.canBe(a, b, c, d);
            case 19: return x.suspects(a, b, c);
            case 20: return x.settled(a);
            case 21: return x.cheapest(a, b, c);
            case 22: return x.nextSeat(a, b, c);
            case 23: return x.followed(a, b, c);
            case 24: return x.crowd(a, b);
            case 25: return x.told(a, b, c);
            case 26: return x.believed(a, b);
            case 27: return x.account(a, b, c, d);
            case 28: return x.met(a, b);
            case 29: return x.soldOut(a - 1);
            case 30: return x.haunted();
            case 31: return x.image(a);
            case 32: return x.restore(a);
            case 33: return x.kind(a);
            case 34: return x.as(a, b);
            case 35: return x.ask(a, b);
            case 36: return x.trace(a);
            case 37: return x.count(a);
            default: return x.status();
        }
    }

    private int ofModel(int call, int a, int b, int c, int d, int e) {
        switch (call) {
            case 0: return model.row(a, b, c);
            case 1: return model.set(a, b, c);
            case 2: return model.copy(a, b, c, d, e);
            case 3: return model.drop(a);
            case 4: return model.feed(a);
            case 5: return model.house();
            case 6: return model.fault();
            case 7: return model.undo();
            case 8: return model.buy(a, b, c);
            case 9: return model.back(a, b, c);
            case 10: return model.curtain(a, b, c);
            case 11: return model.write(a);
            case 12: return model.visitor(a, b);
            case 13: return model.seat(a, b, c);
            case 14: return model.price(a, b, c);
            case 15: return model.looked(a, b);
            case 16: return model.seen(a, b, c);
            case 17: return model.known(a, b);
            case 18: return model.canBe(a, b, c, d);
            case 19: return model.suspects(a, b, c);
            case 20: return model.settled(a);
            case 21: return model.cheapest(a, b, c);
            case 22: return model.nextSeat(a, b, c);
            case 23: return model.followed(a, b, c);
            case 24: return model.crowd(a, b);
            case 25: return model.told(a, b, c);
            case 26: return model.believed(a, b);
            case 27: return model.account(a, b, c, d);
            case 28: return model.met(a, b);
            case 29: return model.soldOut(a - 1);
            case 30: return model.haunted();
            case 31: return model.image(a);
            case 32: return model.restore(a);
            case 33: return model.kind(a);
            case 34: return model.as(a, b);
            case 35: return model.ask(a, b);
            case 36: return model.trace(a);
            case 37: return model.count(a);
            default: return model.status();
        }
    }
}
