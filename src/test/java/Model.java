import java.util.ArrayDeque;
import java.util.ArrayList;
import java.util.Deque;
import java.util.HashMap;
import java.util.List;
import java.util.Map;
import java.util.regex.Matcher;
import java.util.regex.Pattern;

/**
 * The document once more, slow and by other means (copies of the whole state, maps, patterns),
 * so that a slip in the program is not a slip here, too.
 */
final class Model {
    private static final Pattern TOKEN = Pattern.compile("[0-9]+|[^ ]");

    private record Kerb(int town, int height, int drain, int delay) { }

    private record Thing(int kerb, int togo, boolean tied) { }

    private record Moment(int tide, int drifts, List<Thing> things) { }

    private record Pair(int a, int b) { }

    private static final class Fault extends Exception {
        private static final long serialVersionUID = 1;
        final int place;

        Fault(int place) {
            this.place = place;
        }
    }

    private static final class Told {
        int modulo = 10;
        int step = 3;
        int offset = 0;
        boolean moduloTold;
        final List<Kerb> kerbs = new ArrayList<>();
        final List<Thing> things = new ArrayList<>();
        int items;
    }

    private String text = "";
    private Told told = new Told();
    private Moment moment = new Moment(0, 0, List.of());
    private final Deque<Moment> past = new ArrayDeque<>();
    private final Map<Integer, Moment> images = new HashMap<>();
    private final List<Pair> found = new ArrayList<>();
    private final List<Pair> seen = new ArrayList<>();
    private long trace;

    int type(int letter) {
        if (letter < 0 || letter > 255) {
            return -1;
        }
        if (text.length() == 150) {
            return -3;
        }
        text += (char) letter;
        return text.length();
    }

    int clear() {
        int had = text.length();
        text = "";
        return had;
    }

    int towns() {
        Told fresh = new Told();
        try {
            read(fresh);
        } catch (Fault fault) {
            return -10 - fault.place;
        }
        told = fresh;
        text = "";
        moment = new Moment(0, 0, List.copyOf(fresh.things));
        past.clear();
        images.clear();
        found.clear();
        seen.clear();
        return fresh.items;
    }

    private void read(Told fresh) throws Fault {
        List<String> tokens = new ArrayList<>();
        List<Integer> places = new ArrayList<>();
        Matcher matcher = Pattern.compile(TOKEN.pattern(), Pattern.DOTALL).matcher(text);
        while (matcher.find()) {
            tokens.add(matcher.group());
            places.add(matcher.start());
        }
        tokens.add("");
        places.add(text.length());
        int i = 0;
        while (!tokens.get(i).isEmpty()) {
            String head = tokens.get(i);
            int numbers = Map.of("m", 3, "k", 2, "d", 3, "t", 1).getOrDefault(head, -1);
            if (numbers < 0 || head.equals("m") && fresh.moduloTold || head.equals("k") && fresh.kerbs.size() == 8
                    || head.equals("t") && fresh.things.size() == 5) {
                throw new Fault(places.get(i));
            }
            int[] told = new int[numbers];
            for (int n = 0; n < numbers; n++) {
                i++;
                String token = tokens.get(i);
                int[] range = range(fresh, head, n, told);
                if (!token.matches("0|[1-9][0-9]?") || Integer.parseInt(token) < range[0]
                        || Integer.parseInt(token) > range[1]) {
                    throw new Fault(places.get(i));
                }
                told[n] = Integer.parseInt(token);
            }
            i++;
            if (!tokens.get(i).equals(";")) {
                throw new Fault(places.get(i));
            }
            i++;
            tell(fresh, head, told);
        }
    }

    private static int[] range(Told fresh, String head, int n, int[] told) {
        int kerbs = fresh.kerbs.size();
        switch (head) {
            case "m": return n == 0 ? new int[] {2, 20} : new int[] {0, told[0] - 1};
            case "k": return n == 0 ? new int[] {0, 1} : new int[] {0, 19};
            case "d": return n < 2 ? new int[] {0, kerbs - 1} : new int[] {1, 4};
            default: return new int[] {0, kerbs - 1};
        }
    }

    private static void tell(Told fresh, String head, int[] n) {
        fresh.items++;
        switch (head) {
            case "m":
                fresh.modulo = n[0];
                fresh.step = n[1];
                fresh.offset = n[2];
                fresh.moduloTold = true;
                break;
            case "k":
                fresh.kerbs.add(new Kerb(n[0], n[1], fresh.kerbs.size(), 1));
                break;
            case "d":
                Kerb old = fresh.kerbs.get(n[0]);
                fresh.kerbs.set(n[0], new Kerb(old.town, old.height, n[1], n[2]));
                break;
            default:
                fresh.things.add(new Thing(n[0], 0, false));
        }
    }

    private boolean noKerb(int k) {
        return k < 0 || k >= told.kerbs.size();
    }

    private boolean noThing(int t) {
        return t < 0 || t >= told.things.size();
    }

    private int lev(int tide) {
        return (told.step * tide + told.offset) % told.modulo;
    }

    private Thing drift(Thing thing, int level) {
        Kerb kerb = told.kerbs.get(thing.kerb);
        if (thing.togo > 0) {
            return new Thing(thing.kerb, thing.togo - 1, false);
        }
        if (thing.tied || kerb.height > level) {
            return thing;
        }
        return new Thing(kerb.drain, kerb.delay - 1, false);
    }

    private boolean drifts(Thing thing, int level) {
        return thing.togo == 0 && !thing.tied && told.kerbs.get(thing.kerb).height <= level;
    }

    private Moment next(Moment m) {
        int level = lev(m.tide);
        int drifts = m.drifts;
        List<Thing> things = new ArrayList<>();
        for (Thing thing : m.things) {
            drifts += drifts(thing, level) ? 1 : 0;
            things.add(drift(thing, level));
        }
        return new Moment(m.tide + 1, Math.min(99999, drifts), things);
    }

    private Moment ahead(Moment m, int n) {
        Moment then = m;
        for (int i = 0; i < n; i++) {
            then = next(then);
        }
        return then;
    }

    private Moment with(int t, Thing thing) {
        List<Thing> things = new ArrayList<>(moment.things);
        things.set(t, thing);
        return new Moment(moment.tide, moment.drifts, things);
    }

    private void become(Moment m) {
        past.push(moment);
        if (past.size() > 10) {
            past.removeLast();
        }
        moment = m;
    }

    int kerb(int k, int what) {
        if (noKerb(k) || what < 0 || what > 4) {
            return -1;
        }
        Kerb kerb = told.kerbs.get(k);
        int bits = 0;
        for (int t = 0; t < moment.things.size(); t++) {
            if (where(moment.things.get(t)) == k) {
                bits += 1 << t;
            }
        }
        return new int[] {kerb.town, kerb.height, kerb.drain, kerb.delay, bits}[what];
    }

    private static int where(Thing thing) {
        return thing.togo == 0 ? thing.kerb : -9;
    }

    int thing(int t, int what) {
        if (noThing(t) || what < 0 || what > 3) {
            return -1;
        }
        Thing thing = moment.things.get(t);
        return new int[] {where(thing), thing.kerb, thing.togo, thing.tied ? 1 : 0}[what];
    }

    int now(int what) {
        if (what < 0 || what > 4) {
            return -1;
        }
        return new int[] {moment.tide, lev(moment.tide), moment.drifts, bitsAt(moment.tide), past.size()}[what];
    }

    private int bitsAt(int tide) {
        int bits = 0;
        for (int k = 0; k < told.kerbs.size(); k++) {
            bits += told.kerbs.get(k).height <= lev(tide) ? 1 << k : 0;
        }
        return bits;
    }

    int tides(int n) {
        if (n < 1 || n > 99) {
            return -1;
        }
        if (moment.tide + n > 9999) {
            return -2;
        }
        int before = moment.drifts;
        become(ahead(moment, n));
        return moment.drifts - before;
    }

    int ties(int t, int is) {
        if (noThing(t) || is < 0 || is > 1) {
            return -1;
        }
        Thing thing = moment.things.get(t);
        if (thing.togo > 0 || thing.tied == (is == 1)) {
            return -2;
        }
        become(with(t, new Thing(thing.kerb, 0, is == 1)));
        return (int) moment.things.stream().filter(Thing::tied).count();
    }

    int carries(int t, int k) {
        if (noThing(t) || noKerb(k)) {
            return -1;
        }
        Thing thing = moment.things.get(t);
        if (thing.togo > 0 || thing.kerb == k || told.kerbs.get(thing.kerb).town != told.kerbs.get(k).town) {
            return -2;
        }
        become(with(t, new Thing(k, 0, thing.tied)));
        return thing.kerb;
    }

    int undo() {
        if (past.isEmpty()) {
            return -2;
        }
        moment = past.pop();
        return past.size();
    }

    int level(int tide) {
        return tide < 0 || tide > 9999 ? -1 : lev(tide);
    }

    int high(int h) {
        if (h < 0 || h > 19) {
            return -1;
        }
        int tide = moment.tide;
        while (tide < moment.tide + told.modulo && lev(tide) < h) {
            tide++;
        }
        return tide == moment.tide + told.modulo ? -9 : tide;
    }

    int flood(int tide) {
        return tide < 0 || tide > 9999 ? -1 : bitsAt(tide);
    }

    int where(int t, int n) {
        return noThing(t) || n < 0 || n > 400 ? -1 : where(ahead(moment, n).things.get(t));
    }

    private int when(Moment from, int t, int k) {
        Moment then = from;
        for (int n = 0; n <= 400; n++) {
            if (where(then.things.get(t)) == k) {
                return then.tide;
            }
            then = next(then);
        }
        return -9;
    }

    int when(int t, int k) {
        return noThing(t) || noKerb(k) ? -1 : when(moment, t, k);
    }

    int send(int t, int k, int what) {
        if (noThing(t) || noKerb(k) || what < 0 || what > 1) {
            return -1;
        }
        Thing thing = moment.things.get(t);
        if (thing.togo > 0) {
            return -2;
        }
        int best = -9;
        int soonest = Integer.MAX_VALUE;
        for (int from = told.kerbs.size() - 1; from >= 0; from--) {
            int tide = when(with(t, new Thing(from, 0, false)), t, k);
            if (told.kerbs.get(from).town == told.kerbs.get(thing.kerb).town && tide >= 0 && tide <= soonest) {
                best = from;
                soonest = tide;
            }
        }
        return what == 0 || best < 0 ? best : soonest;
    }

    int meet(int t, int u) {
        if (noThing(t) || noThing(u) || t == u) {
            return -1;
        }
        Moment then = moment;
        for (int n = 0; n <= 400; n++) {
            if (where(then.things.get(t)) >= 0 && where(then.things.get(t)) == where(then.things.get(u))) {
                return then.tide;
            }
            then = next(then);
        }
        return -9;
    }

    int round(int t) {
        if (noThing(t)) {
            return -1;
        }
        Map<List<Integer>, Integer> first = new HashMap<>();
        Moment then = moment;
        while (true) {
            Thing thing = then.things.get(t);
            Integer before = first.put(List.of(thing.kerb, thing.togo, then.tide % told.modulo), then.tide);
            if (before != null) {
                return then.tide - before;
            }
            then = next(then);
        }
    }

    int odds(int t, int k, int n, int x, int what) {
        if (noThing(t) || noKerb(k) || n < 0 || n > 4 || x < 0 || x > 10 || what < 0 || what > 1) {
            return -1;
        }
        int upper = cases(moment.things.get(t), moment.tide, k, n, x);
        int lower = (int) Math.pow(10, n);
        int divisor = lower;
        while (upper % divisor != 0 || lower % divisor != 0) {
            divisor--;
        }
        return (what == 0 ? upper : lower) / divisor;
    }

    private int cases(Thing thing, int tide, int k, int n, int x) {
        if (n == 0) {
            return where(thing) == k ? 1 : 0;
        }
        return x * cases(drift(thing, lev(tide) - 3), tide + 1, k, n - 1, x)
                + (10 - x) * cases(drift(thing, lev(tide)), tide + 1, k, n - 1, x);
    }

    int found(int k, int tide) {
        return noKerb(k) || tide < 0 || tide > 99 ? -1 : note(found, k, tide);
    }

    private static int note(List<Pair> notes, int a, int b) {
        if (notes.size() == 6) {
            return -3;
        }
        notes.add(new Pair(a, b));
        return notes.size();
    }

    int began() {
        int bits = 0;
        for (int k = 0; k < told.kerbs.size(); k++) {
            boolean fits = true;
            for (Pair pair : found) {
                Moment start = new Moment(0, 0, List.of(new Thing(k, 0, false)));
                fits &= where(ahead(start, pair.b).things.get(0)) == pair.a;
            }
            bits += fits ? 1 << k : 0;
        }
        return bits;
    }

    int saw(int tide, int v) {
        return tide < 0 || tide > 99 || v < 0 || v > 19 ? -1 : note(seen, tide, v);
    }

    int laws(int what) {
        if (what < 0 || what > 1) {
            return -1;
        }
        int count = 0;
        int least = -9;
        for (int law = told.modulo * told.modulo - 1; law >= 0; law--) {
            int step = law / told.modulo;
            int offset = law % told.modulo;
            if (seen.stream().allMatch(pair -> (step * pair.a + offset) % told.modulo == pair.b)) {
                count++;
                least = 100 * step + offset;
            }
        }
        return what == 0 ? count : least;
    }

    int forget() {
        int both = found.size() + seen.size();
        found.clear();
        seen.clear();
        return both;
    }

    int rate(int kind, int k) {
        if (noKerb(k) || kind < 0 || kind > 5) {
            return -1000000;
        }
        trace += new int[] {1, 11, 101, 1011, 10101, 100001}[kind];
        int height = told.kerbs.get(k).height;
        int lying = Integer.bitCount(kerb(k, 4));
        int level = lev(moment.tide);
        return new int[] {height, height + lying, height - level, 2 * (height + lying), height - level + k,
            height + told.kerbs.get(k).delay}[kind];
    }

    int keep(int image) {
        if (image < 0 || image > 1) {
            return -1;
        }
        images.put(image, moment);
        return moment.tide;
    }

    int back(int image) {
        if (image < 0 || image > 1) {
            return -1;
        }
        if (!images.containsKey(image)) {
            return -2;
        }
        moment = images.get(image);
        past.clear();
        return moment.tide;
    }

    int count(int what) {
        if (what < 0 || what > 7) {
            return -1;
        }
        return new int[] {told.kerbs.size(), told.things.size(), told.modulo, told.step, told.offset,
            found.size(), seen.size(), text.length()}[what];
    }

    long trace() {
        return trace;
    }
}
