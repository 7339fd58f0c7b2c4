import java.util.Map;
import java.util.TreeMap;

/** Counts what is as due, by promises, and prints what is not; the tests share it. */
final class Check {
    static final int NONE = SeenAgain.NONE, BAD = SeenAgain.BAD, STATE = SeenAgain.STATE, FULL = SeenAgain.FULL;
    static final int NULL = -1000011, PLACE = -1000012, KIND = -1000013, SIZE = -1000014, STORE = -1000015;

    /** Four ROOMS, 0 - 1 - 2 in a line and 3 apart; two PEOPLE; an heir, a detective, a liar, a writer. */
    static final String MANOR = "h4,2,6;g0,1;g1,2;r0,0,1,2,3,3,2,1;r3,3,3,1,1,0,0,0;a20;d9;l30;w15;";

    /** The least HOUSE with a window, a PERSON and a VISITOR. */
    static final String HUT = "h2,1,0;g0,1;r0,0,0,0,0,0,0,0;t0;";

    /** The greatest HOUSE: all that there is room for, and it fills THE TAPE, too. */
    static final String CASTLE = "h06,05,20;g0,1;g1,2;g2,3;g3,4;g4,5;g1,0;g2,1;g3,2;g04,3;"
        + "r0,1,2,3,4,5,0,1;r5,5,5,5,5,5,5,5;r5,4,3,2,1,0,5,4;r1,1,1,1,0,0,0,0;t99;w99;l99;a99;";

    private static final Map<Integer, Integer> PASSED = new TreeMap<>();
    private static int failed = 0;

    private Check() {
    }

    /** What is told begins with the number of the promise. */
    static void due(String what, int got, int want) {
        if (got == want) {
            String number = what.replaceAll("(?s)[^0-9].*", "");
            PASSED.merge(number.isEmpty() ? 0 : Integer.parseInt(number), 1, Integer::sum);
            return;
        }
        failed++;
        System.out.println(what + " answered " + got + ", due is " + want);
    }

    /** Two portraits: of long ones only the part is told in which they begin to differ. */
    static void due(String what, String got, String want) {
        int same = 0;
        while (same < Math.min(got.length(), want.length()) && got.charAt(same) == want.charAt(same)) {
            same++;
        }
        boolean alike = got.equals(want);
        due(alike ? what : what + ": " + part(got, same) + " where due is " + part(want, same), alike ? 1 : 0, 1);
    }

    private static String part(String text, int at) {
        return "[.." + text.substring(Math.max(0, at - 40), Math.min(text.length(), at + 40)) + "..]";
    }

    /** A call that is refused, or found, or changes nothing: but for status() all is as it was ahead of it. */
    static void stays(String what, Run ahead, Run.Call call, int want) {
        SeenAgain x = ahead.made();
        int status = x.status();
        due(what, call.on(x), want);
        boolean found = want <= NULL && want >= STORE;
        due(what + ", status()", x.status(), found ? NULL + 1 - want : status);
        due(what + ", what stays", ahead.then(call).portrait(), ahead.portrait());
    }

    static void feed(SeenAgain x, String text) {
        for (int i = 0; i < text.length(); i++) {
            x.feed(text.charAt(i));
        }
    }

    static int read(SeenAgain x, String text) {
        feed(x, text);
        return x.house();
    }

    static SeenAgain houseOf(String text) {
        SeenAgain x = new SeenAgain();
        due("7: house() of " + text, read(x, text) > 0 ? 1 : 0, 1);
        return x;
    }

    static void end() {
        StringBuilder all = new StringBuilder("as due, by promises:");
        // 0 stands for what no promise's number was told with.
        PASSED.forEach((promise, n) -> all.append(' ').append(promise).append(" x").append(n));
        System.out.println(all.append("; not: ").append(failed));
        if (failed > 0) {
            System.exit(1);
        }
    }
}
