/** Counts what is as due and prints what is not; the tests share it. */
final class Check {
    static final int NONE = SeenAgain.NONE, BAD = SeenAgain.BAD, STATE = SeenAgain.STATE, FULL = SeenAgain.FULL;
    static final int NULL = -1000011, PLACE = -1000012, KIND = -1000013, SIZE = -1000014, STORE = -1000015;

    /** Four ROOMS, 0 - 1 - 2 in a line and 3 apart; two PEOPLE; an heir, a detective, a liar, a writer. */
    static final String MANOR = "h4,2,6;g0,1;g1,2;r0,0,1,2,3,3,2,1;r3,3,3,1,1,0,0,0;a20;d9;l30;w15;";

    private static int passed = 0;
    private static int failed = 0;

    private Check() {
    }

    static void due(String what, int got, int want) {
        if (got == want) {
            passed++;
            return;
        }
        failed++;
        System.out.println(what + " answered " + got + ", due is " + want);
    }

    static void feed(SeenAgain x, String text) {
        for (int i = 0; i < text.length(); i++) {
            x.feed(text.charAt(i));
        }
    }

    static int read(SeenAgain x, String text) {
        feed(x, text);
        return x.house();
    }

    static SeenAgain houseOf(String text) {
        SeenAgain x = new SeenAgain();
        due("house() of " + text, read(x, text) > 0 ? 1 : 0, 1);
        return x;
    }

    /** All that can be asked without changing anything, in one text. */
    static String portrait(SeenAgain x) {
        StringBuilder all = new StringBuilder();
        for (int what = 0; what < 9; what++) {
            all.append(x.count(what)).append(' ');
        }
        for (int visitor = 0; visitor < 4; visitor++) {
            all.append("\nv").append(x.kind(visitor));
            for (int what = 0; what < 3; what++) {
                all.append(' ').append(x.visitor(visitor, what));
            }
        }
        for (int minute = 0; minute < 8; minute++) {
            all.append("\nm");
            for (int room = 0; room < 6; room++) {
                for (int what = 0; what < 3; what++) {
                    all.append(' ').append(x.seat(room, minute, what));
                }
                for (int visitor = 0; visitor < 4; visitor++) {
                    all.append(' ').append(x.price(visitor, room, minute));
                }
            }
        }
        all.append("\ns").append(x.status()).append(' ').append(x.fault());
        for (int i = 0; i < 16; i++) {
            all.append(' ').append(x.trace(i));
        }
        return all.toString();
    }

    static void end() {
        System.out.println(passed + " answers as due, " + failed + " not");
        if (failed > 0) {
            System.exit(1);
        }
    }
}
