import java.util.ArrayList;
import java.util.LinkedHashMap;
import java.util.List;
import java.util.Map;
import java.util.function.LongSupplier;

/** All that an object tells without changing by it: to see what a call changed, and what it let be. */
final class Picture {
    private final Map<String, Long> answers = new LinkedHashMap<>();

    private Picture() {
    }

    static Picture of(GardenChess x) {
        Picture p = new Picture();
        p.put("fault(0)", x.fault(0));
        p.put("fault(1)", x.fault(1));
        for (int what = 0; what <= 12; what++) {
            p.put("has(" + what + ")", x.has(what));
        }
        p.told(x);
        p.moves(x);
        p.looks(x);
        for (int k = 0; k < 33; k++) {
            p.put("octet(" + k + ")", x.octet(k));
        }
        for (int what = 0; what < 6; what++) {
            p.put("status(" + what + ")", x.status(what));
        }
        return p;
    }

    private void put(String call, long answer) {
        answers.put(call, answer);
    }

    private void told(GardenChess x) {
        for (int i = 0; i < 8; i++) {
            for (int what = 0; what < 6; what++) {
                put("letter(0, " + i + ", " + what + ")", x.letter(0, i, what));
                put("letter(1, " + i + ", " + what + ")", x.letter(1, i, what));
                put("letter(2, " + i + ", " + what + ")", x.letter(2, i, what));
                put("kind(" + i + ", " + what + ")", x.kind(i, what));
                put("man(" + i + ", " + what + ")", x.man(i, what));
                put("field(" + i + ", " + what + ")", x.field(i, what));
            }
        }
        for (int place = 0; place < 25; place++) {
            put("at(" + place % 5 + ", " + place / 5 + ")", x.at(place % 5, place / 5));
        }
    }

    private void moves(GardenChess x) {
        for (int k = 0; x.option(k, 0) >= 0; k++) {
            for (int what = 0; what < 5; what++) {
                put("option(" + k + ", " + what + ")", x.option(k, what));
            }
        }
        for (int k = 0; k <= 40; k++) {
            for (int what = 0; what < 5; what++) {
                put("kept(" + k + ", " + what + ")", x.kept(k, what));
            }
        }
        for (int what = 0; what < 3; what++) {
            put("played(" + what + ")", x.played(what));
        }
    }

    private void looks(GardenChess x) {
        put("balance(0)", x.balance(0));
        put("balance(1)", x.balance(1));
        put("value(2)", x.value(2));
        put("best(1)", x.best(1));
        put("forced()", x.forced());
        for (int what = 0; what < 4; what++) {
            put("later(2, " + what + ")", x.later(2, what));
        }
        put("sow(1, 2)", x.sow(1, 2));
        put("deeper(1, 2, 2)", x.deeper(1, 2, 2));
    }

    /** That the object tells all as here, but for the calls that begin so. */
    void stays(GardenChess x, String when, String... but) {
        Picture now = of(x);
        List<String> calls = new ArrayList<>(answers.keySet());
        for (String call : now.answers.keySet()) {
            if (!answers.containsKey(call)) {
                calls.add(call);
            }
        }
        for (String call : calls) {
            boolean free = false;
            for (String start : but) {
                free = free || call.startsWith(start);
            }
            if (!free) {
                long due = answers.getOrDefault(call, -1L);
                Bench.due(call + " behind " + when, now.answers.getOrDefault(call, -1L), due);
            }
        }
    }

    /** That a call answers so, one more is counted as refused there and nowhere else, and all else stays. */
    static void refused(GardenChess x, int count, String call, long want, LongSupplier run) {
        Picture ahead = of(x);
        Bench.due(call, run.getAsLong(), want);
        ahead.put("status(" + count + ")", ahead.answers.get("status(" + count + ")") + 1);
        ahead.stays(x, call);
    }

    /** That a call answers so, nothing is counted as refused, and all stays. */
    static void tells(GardenChess x, String call, long want, LongSupplier run) {
        Picture ahead = of(x);
        Bench.due(call, run.getAsLong(), want);
        ahead.stays(x, call);
    }

    /** That a board's text on the tape is refused with this FAULT at this place, all else staying. */
    static void refusedBoard(GardenChess x, String text, int fault, int place) {
        Picture ahead = of(x);
        String call = "board() of '" + text + "'";
        Bench.due(call, Bench.board(x, text), Bench.NONE);
        ahead.put("status(1)", ahead.answers.get("status(1)") + 1);
        ahead.put("fault(0)", fault);
        ahead.put("fault(1)", place);
        ahead.stays(x, call);
        Bench.due("the tape goes with " + call, x.feed(0, 0, 0, 0, 0), 20);
        x.end(0);
    }
}
