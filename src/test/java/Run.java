import java.util.ArrayList;
import java.util.List;

/**
 * Calls that can be made again and again, each time on a new object: so all that can be told from outside of what they
 * left is told without one object being used for more than the 512 calls that the document allows.
 */
final class Run {
    /** One call. */
    interface Call {
        int on(SeenAgain x);
    }

    /** One call that is told a number. */
    interface NumberedCall {
        int on(SeenAgain x, int i);
    }

    private static final int MOST_CALLS = 512;

    /** In it VISITOR 0 sees each of four PEOPLE, of whom PERSON p is in ROOM p, in all MINUTES. */
    static final String GLASS = "h6,1,0;g0,1;g0,2;g0,3;g0,4;g0,5;"
        + "r0,0,0,0,0,0,0,0;r1,1,1,1,1,1,1,1;r2,2,2,2,2,2,2,2;r3,3,3,3,3,3,3,3;t0;";

    private final List<Call> calls;
    private String portrait;

    Run(Call... first) {
        calls = List.of(first);
    }

    private Run(List<Call> all) {
        calls = all;
    }

    /** These calls and more. */
    Run then(Call... more) {
        List<Call> all = new ArrayList<>(calls);
        all.addAll(List.of(more));
        return new Run(all);
    }

    Run fed(String text) {
        List<Call> all = new ArrayList<>(calls);
        for (int i = 0; i < text.length(); i++) {
            int letter = text.charAt(i);
            all.add(x -> x.feed(letter));
        }
        return new Run(all);
    }

    Run told(String text) {
        return fed(text).then(SeenAgain::house);
    }

    /** So many calls, one for each number from 0 on. */
    Run times(int n, NumberedCall call) {
        List<Call> all = new ArrayList<>(calls);
        for (int i = 0; i < n; i++) {
            int k = i;
            all.add(x -> call.on(x, k));
        }
        return new Run(all);
    }

    SeenAgain made() {
        SeenAgain x = new SeenAgain();
        for (Call call : calls) {
            call.on(x);
        }
        return x;
    }

    /** What the last call answers. */
    int last() {
        SeenAgain x = new SeenAgain();
        int answer = 0;
        for (Call call : calls) {
            answer = call.on(x);
        }
        return answer;
    }

    /** All that can be told of what the calls left, but status(). */
    String portrait() {
        if (portrait == null) {
            portrait = asked() + rows() + "\nundone" + undone() + "\nread " + behind(SeenAgain::house)
                + "\nimage 0: " + behind(x -> x.restore(0)) + "\nimage 1: " + behind(x -> x.restore(1));
        }
        return portrait;
    }

    private String behind(Call call) {
        Run run = then(call);
        return run.last() + " " + run.asked();
    }

    /** What calls tell that change nothing. */
    private String asked() {
        StringBuilder all = new StringBuilder();
        SeenAgain x = made();
        int used = calls.size();
        for (Call call : QUIET) {
            if (used == MOST_CALLS) {
                x = made();
                used = calls.size();
            }
            used++;
            all.append(call.on(x)).append(' ');
        }
        return all.toString();
    }

    private static final List<Call> QUIET = quiet();

    private static List<Call> quiet() {
        List<Call> all = new ArrayList<>();
        each(all, 9, (x, what) -> x.count(what));
        each(all, 16, (x, i) -> x.trace(i));
        all.add(SeenAgain::fault);
        all.add(SeenAgain::haunted);
        each(all, 12, (x, i) -> x.visitor(i / 3, i % 3));
        each(all, 4, (x, one) -> x.kind(one));
        each(all, 144, (x, i) -> x.seat(i / 24, i / 3 % 8, i % 3));
        each(all, 192, (x, i) -> x.price(i / 48, i / 8 % 6, i % 8));
        each(all, 8, (x, minute) -> x.settled(minute));
        each(all, 8, (x, i) -> x.soldOut(i - 1));
        each(all, 24, (x, i) -> x.nextSeat(i / 6, i % 6, 255));
        each(all, 32, (x, i) -> x.followed(i / 8, i / 2 % 4, i % 2));
        each(all, 32, (x, i) -> x.told(i / 8, 0, i % 8));
        each(all, 16, (x, i) -> x.met(i / 4, i % 4));
        return all;
    }

    private static void each(List<Call> all, int n, NumberedCall call) {
        for (int i = 0; i < n; i++) {
            int k = i;
            all.add(x -> call.on(x, k));
        }
    }

    private String rows() {
        StringBuilder all = new StringBuilder();
        for (int row = 0; row < 8; row++) {
            all.append("\nrow ").append(row).append(": ").append(row(row));
        }
        return all.toString();
    }

    /** Of a ROW the LANE and the ITEMS: those that are no ROOM are told as one, x, for no call tells them. */
    String row(int row) {
        if (made().drop(row) == Check.NULL) {
            return "missing";
        }
        int spare = row == 7 ? 0 : 7;
        SeenAgain x = then(SeenAgain::house).told(GLASS).times(8, (y, minute) -> y.buy(0, 0, minute)).made();
        int lane = 0;
        while (lane < 3 && laneFits(x, row, spare, lane) == Check.STORE) {
            lane++;
        }
        for (int i = 1; i < 8; i++) {
            x.set(spare, i, -1);
        }
        StringBuilder all = new StringBuilder("lane " + lane + ":");
        for (int i = 0; x.copy(row, i, spare, 0, 1) == 1; i++) {
            all.append(' ').append(item(x, spare));
        }
        return all.toString();
    }

    private static int laneFits(SeenAgain x, int row, int spare, int lane) {
        x.row(spare, lane, 8);
        return x.copy(row, 0, spare, 0, 0);
    }

    /** The first ITEM, by the PEOPLE who can not be in that ROOM: all but one if it is one of theirs. */
    private static String item(SeenAgain x, int row) {
        StringBuilder others = new StringBuilder();
        for (int person = 0; person < 4; person++) {
            int untrue = x.account(1, person, row, 0);
            if (untrue == Check.BAD) {
                return "x";
            }
            others.append(untrue);
        }
        switch (others.toString()) {
            case "0000": return "-1";
            case "0111": return "0";
            case "1011": return "1";
            case "1101": return "2";
            case "1110": return "3";
            default: return "4or5";
        }
    }

    /** What is left behind each undoing, as far as something can be undone. */
    private String undone() {
        StringBuilder all = new StringBuilder();
        Run run = then(SeenAgain::undo);
        for (int left = run.last(); left >= 0; left = run.last()) {
            all.append('\n').append(left).append(": ").append(run.asked());
            run = run.then(SeenAgain::undo);
        }
        return all.toString();
    }
}
