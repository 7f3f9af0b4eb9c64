import java.nio.charset.StandardCharsets;
import java.util.Random;
import java.util.function.LongSupplier;

/** Random runs of calls, right and wrong ones, compared with the model. The seeds are fixed. */
public final class RandomRunsTest {
    private static final int RUNS = 400;
    private static final int CALLS = 512;

    private final Check check;
    private final int run;
    private final Random random;
    private final Lists lists;
    private final TunnelLeggers x = new TunnelLeggers();
    private final Model model = new Model();
    private String tape = "";
    private int latestErrorAt = -1;
    private int calls = 0;

    private RandomRunsTest(Check check, int run) {
        this.check = check;
        this.run = run;
        this.random = new Random(run);
        this.lists = new Lists(random);
    }

    public static void main(String[] args) {
        Check check = new Check();
        for (int run = 0; run < RUNS; run++) {
            new RandomRunsTest(check, run).go();
        }
        check.end();
    }

    private void go() {
        teach(lists.list());
        while (calls < CALLS) {
            if (random.nextInt(150) == 0 && calls < CALLS - 110) {
                teach(random.nextInt(3) == 0 ? lists.list() : lists.spoilt(lists.list()));
            } else {
                calls++;
                call(random.nextInt(23));
            }
        }
    }

    /** An exception is told as a number that no answer is. */
    private static long answer(LongSupplier call) {
        try {
            return call.getAsLong();
        } catch (IndexOutOfBoundsException e) {
            return e.getClass() == IndexOutOfBoundsException.class ? OUT_OF_BOUNDS : Long.MAX_VALUE;
        } catch (IllegalArgumentException e) {
            return e.getClass() == IllegalArgumentException.class ? ILLEGAL : Long.MAX_VALUE;
        } catch (IllegalStateException e) {
            return e.getClass() == IllegalStateException.class ? WRONG_STATE : Long.MAX_VALUE;
        }
    }

    private static final long OUT_OF_BOUNDS = 1L << 40;
    private static final long ILLEGAL = 1L << 41;
    private static final long WRONG_STATE = 1L << 42;

    private void same(String call, LongSupplier got, long due) {
        check.same("run " + run + ", call " + calls + ": " + call, answer(got), due);
    }

    private void teach(String list) {
        String cut = Lists.cut(list);
        byte[] bytes = cut.getBytes(StandardCharsets.ISO_8859_1);
        same("trim(0)", () -> x.trim(0), 0);
        for (int from = 0; from < bytes.length; from += 20) {
            int at = from;
            same("feed", () -> x.feed(Check.word(bytes, at), Check.word(bytes, at + 4), Check.word(bytes, at + 8),
                Check.word(bytes, at + 12), Check.word(bytes, at + 16)), from + 20);
            calls++;
        }
        same("trim", () -> x.trim(bytes.length), bytes.length);
        int[] due = model.learn(cut);
        same("teach() of " + cut, x::teach, due[0]);
        latestErrorAt = due[1];
        same("errorAt() of " + cut, x::errorAt, due[1]);
        calls += 4;
        tape = "";
    }

    private int index(int size) {
        return random.nextInt(12) == 0 ? random.nextInt(5) - 2 + size : random.nextInt(Math.max(1, size));
    }

    private int minutes() {
        int sort = random.nextInt(20);
        return sort == 0 ? 120 : sort == 1 ? 121 : sort == 2 ? random.nextInt(3) - 1 : 1 + random.nextInt(40);
    }

    private void call(int sort) {
        if (sort < 7) {
            lookAtOne(sort);
        } else if (sort < 14) {
            doByHand(sort);
        } else {
            lookAhead(sort);
        }
    }

    private static boolean has(int index, int size) {
        return index >= 0 && index < size;
    }

    private void lookAtOne(int sort) {
        int what = index(sort == 0 ? 14 : sort < 3 ? 4 : 7);
        switch (sort) {
            case 0:
                same("count " + what, () -> x.count(what), has(what, 14) ? count(model, what) : OUT_OF_BOUNDS);
                break;
            case 1:
                int p = index(model.places.size());
                same("place " + p + " " + what, () -> x.place(p, what),
                    has(p, model.places.size()) && has(what, 4) ? place(p, what) : OUT_OF_BOUNDS);
                break;
            case 2:
                int b = index(model.bores.size());
                same("bore " + b + " " + what, () -> x.bore(b, what),
                    has(b, model.bores.size()) && has(what, 4) ? bore(b, what) : OUT_OF_BOUNDS);
                break;
            case 3:
                int l = index(model.leggers().size());
                same("legger " + l + " " + what, () -> x.legger(l, what),
                    has(l, model.leggers().size()) && has(what, 7) ? legger(l, what) : OUT_OF_BOUNDS);
                break;
            case 4:
                int k = index(model.boats().size());
                same("boat " + k + " " + what, () -> x.boat(k, what),
                    has(k, model.boats().size()) && has(what, 7) ? boat(k, what) : OUT_OF_BOUNDS);
                break;
            case 5:
                int c = index(model.boats().size());
                int place = index(2);
                same("crew " + c + " " + place, () -> x.crew(c, place),
                    has(c, model.boats().size()) && has(place, 2) ? crew(c, place) : OUT_OF_BOUNDS);
                break;
            default:
                int e = index(model.boats().size());
                same("canEnter " + e, () -> x.canEnter(e) ? 1 : 0, !has(e, model.boats().size()) ? OUT_OF_BOUNDS
                    : model.canEnter(model.boats().get(e)) ? 1 : 0);
        }
    }

    private void doByHand(int sort) {
        switch (sort) {
            case 7:
                int turn = index(2);
                same("whistle " + turn, () -> x.whistle(turn), has(turn, 2) ? model.turn : ILLEGAL);
                model.turn = has(turn, 2) ? turn : model.turn;
                break;
            case 8:
                int better = 0;
                boolean opens = random.nextInt(3) == 0;
                for (Model.Place place : model.places) {
                    better += opens ? 100 - place.air : 0;
                    place.air = opens ? 100 : place.air;
                }
                if (opens) {
                    same("air", x::air, better);
                }
                break;
            case 9:
                int l = index(model.leggers().size());
                boolean there = has(l, model.leggers().size());
                same("cap " + l, () -> x.cap(l), there ? model.leggers().get(l).cap : OUT_OF_BOUNDS);
                if (there) {
                    model.leggers().get(l).cap = -1;
                }
                break;
            case 10:
                again();
                break;
            case 11:
                int n = index(tape.length() + 1);
                same("trim " + n, () -> x.trim(n), has(n, tape.length() + 1) ? n : ILLEGAL);
                tape = has(n, tape.length() + 1) ? tape.substring(0, n) : tape;
                break;
            case 12:
                byte[] bytes = new byte[20];
                random.nextBytes(bytes);
                same("feed", () -> x.feed(Check.word(bytes, 0), Check.word(bytes, 4), Check.word(bytes, 8),
                    Check.word(bytes, 12), Check.word(bytes, 16)), tape.length() + 20);
                tape += new String(bytes, StandardCharsets.ISO_8859_1);
                break;
            default:
                pass();
        }
    }

    private void again() {
        int b = index(model.boats().size());
        int due = random.nextInt(4) == 0 ? new int[] {-1, 0, 9999, 10000}[random.nextInt(4)] : random.nextInt(80);
        if (!has(b, model.boats().size())) {
            same("again " + b, () -> x.again(b, due), OUT_OF_BOUNDS);
            return;
        }
        Model.Boat boat = model.boats().get(b);
        boolean right = due >= 0 && due <= 9999;
        boolean out = boat.how.equals("out");
        same("again " + b + " " + due, () -> x.again(b, due), !right ? ILLEGAL : out ? 1 - boat.end : WRONG_STATE);
        if (right && out) {
            boat.end = 1 - boat.end;
            boat.how = "waits";
            boat.due = due;
            boat.outAt = -1;
        }
    }

    private void pass() {
        int minutes = minutes();
        long before = model.boatsThat("out");
        boolean right = minutes >= 1 && minutes <= 120;
        for (int i = 0; i < minutes && right; i++) {
            model.minute();
        }
        same("pass " + minutes, () -> x.pass(minutes), right ? model.boatsThat("out") - before : ILLEGAL);
    }

    private void lookAhead(int sort) {
        int minutes = minutes();
        boolean right = minutes >= 1 && minutes <= 120;
        switch (sort) {
            case 14:
                int b = index(model.boats().size());
                same("until " + b, () -> x.until(b), has(b, model.boats().size()) ? until(b) : OUT_OF_BOUNDS);
                break;
            case 15:
                int what = 8 + index(5);
                same("foresee " + minutes + " " + what, () -> x.foresee(minutes, what), !right ? ILLEGAL
                    : has(what - 8, 5) ? count(model.later(minutes), what) : OUT_OF_BOUNDS);
                break;
            case 16:
                same("advise " + minutes, () -> x.advise(minutes), right ? advise(minutes) : ILLEGAL);
                break;
            case 17:
                same("missed " + minutes, () -> x.missed(minutes), right ? missed(minutes) : ILLEGAL);
                break;
            case 18:
                check.sameDouble("run " + run + ": mean", x.mean(),
                    model.leggers().stream().mapToInt(l -> l.breath).average().orElse(0));
                break;
            case 19:
                int worst = -1;
                for (int p = model.places.size() - 1; p >= 0; p--) {
                    worst = worst < 0 || model.places.get(p).air <= model.places.get(worst).air ? p : worst;
                }
                same("worst", x::worst, worst);
                break;
            case 20:
                same("errorAt", x::errorAt, latestErrorAt);
                break;
            case 21:
                same("digest", x::digest, digest());
                break;
            default:
                pass();
        }
    }

    private long until(int b) {
        Model later = model.twin();
        for (int minutes = 0; minutes <= 300; minutes++) {
            if (later.boats().get(b).how.equals("out")) {
                return minutes;
            }
            later.minute();
        }
        return -1;
    }

    private long advise(int minutes) {
        long[] out = new long[2];
        for (int turn = 0; turn < 2; turn++) {
            Model later = model.twin();
            later.turn = turn;
            out[turn] = later.later(minutes).boatsThat("out");
        }
        return out[0] >= out[1] ? 0 : 1;
    }

    private long missed(int minutes) {
        int found = -1;
        long fewest = Long.MAX_VALUE;
        for (int l = 0; l < model.leggers().size(); l++) {
            Model later = model.twin();
            later.idle = later.leggers().get(l);
            for (int i = 0; i < minutes; i++) {
                later.minute();
            }
            if (later.boatsThat("out") < fewest) {
                fewest = later.boatsThat("out");
                found = l;
            }
        }
        return found;
    }

    private long count(Model of, int what) {
        switch (what) {
            case 0:
                return of.minute;
            case 1:
                return of.turn;
            case 2:
                return of.bores.size();
            case 3:
                return of.places.size();
            case 4:
                return of.shafts.size();
            case 5:
                return of.leggers().size();
            case 6:
                return of.boats().size();
            case 7:
                return of.orders.size();
            case 8:
                return of.boatsThat("waits");
            case 9:
                return of.boatsThat("inside");
            case 10:
                return of.boatsThat("out");
            case 11:
                return of.places.stream().mapToInt(p -> p.air).sum();
            case 12:
                return of.leggers().stream().filter(l -> l.cap >= 0).count();
            default:
                return tape.length();
        }
    }

    private long place(int p, int what) {
        Model.Place place = model.places.get(p);
        Model.Boat boat = model.boatAt(p);
        long caps = model.leggers().stream().filter(l -> l.cap == p).count();
        return new long[] {place.bore.number, place.air, caps, boat == null ? -1 : boat.number}[what];
    }

    private long bore(int b, int what) {
        Model.Bore bore = model.bores.values().toArray(new Model.Bore[0])[b];
        long air = model.places.stream().filter(p -> p.bore == bore).mapToInt(p -> p.air).sum();
        return new long[] {bore.length, bore.low, bore.first, air}[what];
    }

    private long legger(int l, int what) {
        Model.Legger legger = model.leggers().get(l);
        return new long[] {legger.strength, legger.lungs, legger.breath, legger.cap < 0 ? 1 : 0,
            legger.boat == null ? -1 : legger.boat.number, legger.walks, legger.cap}[what];
    }

    private long boat(int b, int what) {
        Model.Boat boat = model.boats().get(b);
        int how = boat.how.equals("waits") ? 0 : boat.how.equals("inside") ? 1 : 2;
        return new long[] {boat.weight, boat.end, boat.due, how, boat.place, boat.pushed, boat.outAt}[what];
    }

    private long crew(int b, int place) {
        return model.leggers().indexOf(model.boats().get(b).crew.get(place));
    }

    private long digest() {
        long d = 857;
        for (int what = 0; what < 14; what++) {
            d = d * 31 + count(model, what);
        }
        for (int i = 0; i < model.places.size() * 4; i++) {
            d = d * 31 + place(i / 4, i % 4);
        }
        for (int i = 0; i < model.bores.size() * 4; i++) {
            d = d * 31 + bore(i / 4, i % 4);
        }
        for (int i = 0; i < model.leggers().size() * 7; i++) {
            d = d * 31 + legger(i / 7, i % 7);
        }
        for (int i = 0; i < model.boats().size() * 9; i++) {
            d = d * 31 + (i % 9 < 7 ? boat(i / 9, i % 9) : crew(i / 9, i % 9 - 7));
        }
        return d;
    }
}
