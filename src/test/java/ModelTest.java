import java.util.ArrayList;
import java.util.List;
import java.util.Random;
import java.util.regex.Matcher;
import java.util.regex.Pattern;

/** Compares all promises with PlainTrack over runs of calls that are the same every time. */
final class ModelTest {
    private static final Pattern ORDERS;

    static {
        String number = "(0|[1-9][0-9]?)";
        String order = "(c" + number + "\\.[0-9]|[xbkf][0-9]|r" + number + ")";
        ORDERS = Pattern.compile(order + "(;" + order + ")*");
    }

    private final Checks checks;
    private final Random random;
    private final BraidHorns x = new BraidHorns();
    private final List<PlainTrack> history = new ArrayList<>();
    private final PlainTrack[] slots = new PlainTrack[2];
    private PlainTrack track = new PlainTrack();
    private String pad = "";

    private ModelTest(Checks checks, long seed) {
        this.checks = checks;
        this.random = new Random(seed);
    }

    public static void main(String[] args) {
        Checks checks = new Checks();
        for (int seed = 0; seed < 150; seed++) {
            ModelTest run = new ModelTest(checks, seed);
            // Tracks of two carriers and such of many show other things.
            int crowd = 1 + seed % 12;
            run.x.set(BraidHorns.PAIRS, 2 + seed % 5);
            run.changed('s', 0, 2 + seed % 5, 3);
            for (int i = 0; i < 60; i++) {
                run.randomCall(crowd);
                run.compare("seed " + seed + ", call " + i + ": ");
            }
        }
        checks.end();
    }

    private int below(int bound) {
        return random.nextInt(bound);
    }

    private void randomCall(int crowd) {
        int a = below(11) - below(2);
        switch (below(16)) {
            case 0: setting(); break;
            case 1: case 2: case 3: case 4: putCarrier(crowd); break;
            case 5: changed('x', a, 0, x.takeOut(a)); break;
            case 6: case 7: ran(); break;
            case 8: changed('b', a, 0, x.snap(a)); break;
            case 9: changed('k', a, 0, x.tie(a)); break;
            case 10: changed('f', a, 0, x.refill(a)); break;
            case 11: case 12: write(); break;
            case 13: undo(); break;
            case 14: save(below(3)); break;
            default: restore(below(4)); break;
        }
    }

    private void setting() {
        int setting = below(4);
        int value = setting == 0 ? 1 + below(7) : setting == 1 ? below(11) : below(4) == 0 ? below(1100) : below(30);
        changed('s', setting, value, x.set(setting, value));
    }

    private void putCarrier(int crowd) {
        int place = x.firstFree();
        int horn = below(track.horns() + 1);
        int notch = below(5);
        if (track.carriers() >= crowd) {
            int carrier = x.around(below(crowd));
            changed('x', carrier, 0, x.takeOut(carrier));
        } else if (place >= 0 && below(3) > 0) {
            changed('c', place / 4, place % 4, x.carrier(place / 4, place % 4));
        } else {
            changed('c', horn, notch, x.carrier(horn, notch));
        }
    }

    private void ran() {
        int steps = below(3) == 0 ? below(102) - 1 : 1 + below(5);
        changed('r', steps, 0, x.run(steps));
    }

    private void changed(char letter, int a, int b, int answer) {
        PlainTrack before = track.copy();
        int due = track.change(letter, a, b);
        checks.due(letter + " " + a + " " + b, answer, due);
        if (due >= 0) {
            record(before);
        }
    }

    private void record(PlainTrack before) {
        history.add(before);
        if (history.size() > 6) {
            history.remove(0);
        }
    }

    private void write() {
        String text = "";
        for (int i = 0; i <= below(4); i++) {
            String[] orders = {"c" + below(12) + "." + below(4), "x" + below(10), "r" + below(20), "b" + below(10),
                "k" + below(10), "f" + below(10)};
            text += (text.isEmpty() ? "" : ";") + orders[below(6)];
        }
        if (below(3) == 0) {
            int cut = below(text.length());
            text = text.substring(0, cut) + "cr;.059x".charAt(below(8)) + text.substring(cut + below(2));
        }
        if (pad.length() + (text.length() + 7) / 8 * 8 <= 80) {
            checks.due("put", Checks.write(x, text), (pad + text).length());
            pad += text;
        }
        checks.due("fault of " + pad, x.fault(), fault());
        if (below(4) > 0) {
            carryOut();
        } else if (below(2) == 0) {
            checks.due("wipe", x.wipe(), pad.length());
            pad = "";
        }
    }

    /** The last character of the shortest beginning of the pad with which no text begins. */
    private int fault() {
        if (ORDERS.matcher(pad).matches()) {
            return -6;
        }
        for (int end = 1; end <= pad.length(); end++) {
            Matcher matcher = ORDERS.matcher(pad.substring(0, end));
            if (!matcher.matches() && !matcher.hitEnd()) {
                return end - 1;
            }
        }
        return pad.length();
    }

    private void carryOut() {
        String text = pad;
        if (fault() != -6) {
            checks.due("carryOut of " + text, x.carryOut(), -3);
            return;
        }
        PlainTrack before = track.copy();
        int done = 0;
        for (String order : text.split(";")) {
            String[] numbers = order.substring(1).split("\\.");
            int b = numbers.length > 1 ? Integer.parseInt(numbers[1]) : 0;
            if (track.change(order.charAt(0), Integer.parseInt(numbers[0]), b) < 0) {
                break;
            }
            done++;
        }
        checks.due("carryOut of " + text, x.carryOut(), done);
        pad = "";
        record(before);
    }

    private void undo() {
        if (history.isEmpty()) {
            checks.due("undo", x.undo(), -5);
            return;
        }
        track = history.remove(history.size() - 1);
        checks.due("undo", x.undo(), history.size());
    }

    private void save(int slot) {
        if (slot < 2) {
            slots[slot] = track.copy();
        }
        checks.due("save " + slot, x.save(slot), slot < 2 ? track.carriers() : -2);
    }

    private void restore(int slot) {
        int due = slot >= 2 ? -2 : slots[slot] == null ? -5 : slots[slot].carriers();
        checks.due("restore " + slot, x.restore(slot), due);
        if (due >= 0) {
            record(track);
            track = slots[slot].copy();
        }
    }

    private void compare(String when) {
        for (int what = 0; what < 13; what++) {
            checks.due(when + "count(" + what + ")", x.count(what), track.count(what));
        }
        checks.due(when + "count(13)", x.count(13), pad.length());
        checks.due(when + "count(14)", x.count(14), history.size());
        for (int i = 0; i < 11 * 9; i++) {
            checks.due(when + "of(" + i / 9 + ", " + i % 9 + ")", x.of(i / 9, i % 9), track.of(i / 9, i % 9));
        }
        for (int i = 0; i < 13 * 5; i++) {
            int due = !track.isPlace(i / 5, i % 5) ? -1 : track.grid[i / 5][i % 5] < 0 ? -6 : track.grid[i / 5][i % 5];
            checks.due(when + "at(" + i / 5 + ", " + i % 5 + ")", x.at(i / 5, i % 5), due);
        }
        for (int rank = -1; rank < 11; rank++) {
            checks.due(when + "around(" + rank + ")", x.around(rank), track.around(rank));
        }
        for (int what = -1; what < 5; what++) {
            checks.due(when + "meeting(" + what + ")", x.meeting(what), track.meeting(what));
        }
        int[] free = track.freePlaces();
        checks.due(when + "free", x.free(), free[0]);
        checks.due(when + "firstFree", x.firstFree(), free[1]);
        checks.due(when + "why", x.why(), track.why());
        checks.due(when + "period", x.period(), track.period());
        checks.due(when + "lasts", x.lasts(), track.lasts());
    }
}
