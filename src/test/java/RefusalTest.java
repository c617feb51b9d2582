import java.util.ArrayList;
import java.util.List;

/**
 * Term 4: what is refused changes nothing. Each refusal of each promise is called on an object, and all
 * that can be seen of it is compared with what is seen of another that went the same way without the call.
 */
public final class RefusalTest {
    private static final int UNKNOWN = Checks.UNKNOWN, BAD = Checks.BAD, STATE = Checks.STATE;
    private static final int NONE = Checks.NONE, CAST = Checks.CAST;
    private static final int LEAST = Checks.LEAST, MOST = Checks.MOST;
    private static final int LYING = 1, STALE = 2, LAZY = 3;

    /** How an object came to be what it is. */
    private interface Way {
        SilentAsking made();
    }

    public static void main(String[] args) {
        List<Way> all = List.of(SilentAsking::new, RefusalTest::withoutAQuestion,
            RefusalTest::withAQuestion, RefusalTest::withTooFewStores);
        List<Way> without = List.of(SilentAsking::new, RefusalTest::withoutAQuestion);
        List<Way> with = List.of(RefusalTest::withAQuestion, RefusalTest::withTooFewStores);
        ofAnyObject(all);
        ofNoQuestion(without);
        ofAQuestion(with);
        ofTooFewStores(List.of(RefusalTest::withTooFewStores));
        ofAnotherKind(List.of(RefusalTest::withoutAQuestion, RefusalTest::withAQuestion));
        noneChangesNothing(List.of(RefusalTest::withoutAQuestion, RefusalTest::withAQuestion));
        Checks.end();
    }

    // ---- the objects

    /** Eight records, one store of each kind and more, a question that is veiled, a fetch that caught two. */
    private static SilentAsking withAQuestion() {
        SilentAsking x = Checks.with(11, 22, 33, 44, 55, 66, 77, 88);
        x.store(2, STALE, 0);
        x.put(6, 78);
        x.store(1, LYING, 96);
        x.store(3, LAZY, 0);
        x.ask(6, 1, 2024);
        x.veil(31);
        Checks.due("14 fetch(9)", x.fetch(9), 78);
        return x;
    }

    /** What was told and caught before, but other records and no question. */
    private static SilentAsking withoutAQuestion() {
        SilentAsking x = withAQuestion();
        x.records(2);
        x.put(3, 96);
        x.store(5, STALE, 0);
        x.put(3, 95);
        x.store(1, LYING, 1);
        x.store(3, LAZY, 0);
        return x;
    }

    /** As many stores tell as the degree is. */
    private static SilentAsking withTooFewStores() {
        SilentAsking x = withAQuestion();
        for (int j = 4; j <= 8; j++) {
            x.store(j, LAZY, 0);
        }
        return x;
    }

    // ---- all that can be seen

    /** Some two hundred calls; the last ones change the object. */
    private static List<Long> look(SilentAsking x) {
        List<Long> seen = new ArrayList<>();
        int n = x.total(0);
        for (int what = 0; what <= 6; what++) {
            seen.add((long) x.total(what));
        }
        for (int i = 0; i < n; i++) {
            seen.add((long) x.record(i));
        }
        for (int j = 1; j <= 9; j++) {
            lookAtStore(x, j, n, seen);
        }
        seen.add((long) x.mends(9));
        seen.add((long) x.least());
        seen.add(x.ways(2, 0));
        seen.add((long) x.veil(NONE));
        seen.add((long) x.answer(4));
        seen.add((long) x.fetch(9));
        return seen;
    }

    private static void lookAtStore(SilentAsking x, int j, int n, List<Long> seen) {
        seen.add((long) x.taken(j, 0, 0));
        seen.add((long) x.taken(j, 0, 1));
        seen.add((long) x.answer(j));
        seen.add((long) x.caught(j));
        for (int i = 0; i < n; i++) {
            seen.add((long) x.copy(j, i));
        }
        for (int k = 0; k < 3; k++) {
            seen.add((long) x.point(j, k));
        }
    }

    private static void refused(String name, List<Way> ways, int due, Checks.Call... calls) {
        for (int w = 0; w < ways.size(); w++) {
            for (int c = 0; c < calls.length; c++) {
                String which = name + ", call " + (c + 1) + " on object " + (w + 1);
                SilentAsking x = ways.get(w).made();
                Checks.due(which, calls[c].of(x), due);
                Checks.due(which + ": what is seen then is as before",
                    look(x).equals(look(ways.get(w).made())) ? 1 : 0, 1);
            }
        }
    }

    // ---- the refusals

    private static void ofAnyObject(List<Way> all) {
        refused("2 BAD", all, BAD, x -> x.records(LEAST), x -> x.records(-1), x -> x.records(0),
            x -> x.records(4), x -> x.records(MOST));
        refused("3 UNKNOWN", all, UNKNOWN, x -> x.put(LEAST, 5), x -> x.put(-1, 5), x -> x.put(8, 5),
            x -> x.put(MOST, 5), x -> x.put(-1, 97), x -> x.put(8, -1), x -> x.put(x.total(0), 5));
        refused("3 BAD", all, BAD, x -> x.put(0, LEAST), x -> x.put(0, -1), x -> x.put(1, 97), x -> x.put(1, MOST));
        refused("4 UNKNOWN", all, UNKNOWN, x -> x.record(-1), x -> x.record(8), x -> x.record(MOST));
        refused("5 UNKNOWN", all, UNKNOWN, x -> x.store(LEAST, 3, 1), x -> x.store(-1, 2, 1), x -> x.store(0, 1, 1),
            x -> x.store(10, 0, 1), x -> x.store(MOST, 0, 1), x -> x.store(0, 4, 0), x -> x.store(10, 1, 97));
        refused("5 BAD", all, BAD, x -> x.store(1, LEAST, 1), x -> x.store(1, -1, 1), x -> x.store(2, 4, 1),
            x -> x.store(9, MOST, 1), x -> x.store(1, 1, LEAST), x -> x.store(1, 1, 0), x -> x.store(3, 1, 97),
            x -> x.store(2, 1, -1), x -> x.store(4, 1, MOST));
        refused("6 UNKNOWN", all, UNKNOWN, x -> x.taken(0, 0, 0), x -> x.taken(10, 4, 3));
        refused("6 BAD", all, BAD, x -> x.taken(1, -1, 0), x -> x.taken(1, 4, 0), x -> x.taken(1, 0, -1),
            x -> x.taken(1, 0, 3));
        refused("7 UNKNOWN", all, UNKNOWN, x -> x.copy(0, 0), x -> x.copy(10, 0), x -> x.copy(1, -1), x -> x.copy(3, 8));
        refused("8 BAD", all, BAD, x -> x.sum(-1, 0, 0), x -> x.sum(97, 1, 1), x -> x.sum(LEAST, MOST, -1));
        refused("9 UNKNOWN", all, UNKNOWN, x -> x.ask(-1, 1, 5), x -> x.ask(8, 1, 5), x -> x.ask(MOST, 0, -1));
        refused("9 BAD", all, BAD, x -> x.ask(0, 0, 5), x -> x.ask(0, 3, 5), x -> x.ask(0, LEAST, 5),
            x -> x.ask(0, 1, -1), x -> x.ask(1, 2, LEAST));
        refused("10 BAD", all, BAD, x -> x.veil(-1), x -> x.veil(-8), x -> x.veil(-10), x -> x.veil(LEAST));
        refused("11 UNKNOWN", all, UNKNOWN, x -> x.point(0, 0), x -> x.point(10, 3));
        refused("12 UNKNOWN", all, UNKNOWN, x -> x.answer(0), x -> x.answer(10));
        refused("13 BAD", all, BAD, x -> x.needed(0, 1, 0), x -> x.needed(4, 1, 0), x -> x.needed(1, 0, 0),
            x -> x.needed(1, 3, 0), x -> x.needed(1, 1, -1), x -> x.needed(1, 1, 5));
        refused("14 BAD", all, BAD, x -> x.fetch(LEAST), x -> x.fetch(-1), x -> x.fetch(0), x -> x.fetch(10),
            x -> x.fetch(MOST));
        refused("15 UNKNOWN", all, UNKNOWN, x -> x.caught(0), x -> x.caught(10));
        refused("16 BAD", all, BAD, x -> x.mends(0), x -> x.mends(10));
        refused("21 BAD", all, BAD, x -> x.fits(0, 0), x -> x.fits(10, 0), x -> x.fits(9, -1), x -> x.fits(9, 97));
        refused("22 UNKNOWN", all, UNKNOWN, x -> x.both(0, 0), x -> x.both(10, 256));
        refused("22 BAD", all, BAD, x -> x.both(1, -1), x -> x.both(3, 256), x -> x.both(1, LEAST));
        refused("23 UNKNOWN", all, UNKNOWN, x -> x.pair(0, 1, 0, 0), x -> x.pair(1, 10, 0, 0), x -> x.pair(1, 1, 0, 8),
            x -> x.pair(1, 2, 256, -1));
        refused("23 STATE", all, STATE, x -> x.pair(1, 1, 0, 0), x -> x.pair(3, 3, 256, 0));
        refused("23 BAD", all, BAD, x -> x.pair(1, 2, -1, 0), x -> x.pair(3, 2, 256, 0));
        refused("24 BAD", all, BAD, x -> x.total(-1), x -> x.total(7), x -> x.total(LEAST));
    }

    private static void ofNoQuestion(List<Way> without) {
        refused("10 STATE", without, STATE, x -> x.veil(0), x -> x.veil(MOST), x -> x.veil(NONE));
        refused("11 STATE", without, STATE, x -> x.point(1, 0), x -> x.point(9, -1));
        refused("12 STATE", without, STATE, x -> x.answer(1), x -> x.answer(3));
        refused("14 STATE", without, STATE, x -> x.fetch(1), x -> x.fetch(9));
        refused("16 STATE", without, STATE, x -> x.mends(1), x -> x.mends(9));
        refused("17 STATE", without, STATE, x -> x.ways(2, 0), x -> x.ways(0, 0), x -> x.ways(2, 8));
        refused("18 STATE", without, STATE, x -> x.might(2), x -> x.might(0));
        refused("19 STATE", without, STATE, x -> x.learns(2), x -> x.learns(0));
        refused("20 STATE", without, STATE, x -> x.least());
        refused("21 STATE", without, STATE, x -> x.fits(1, 0), x -> x.fits(9, 96));
    }

    private static void ofAQuestion(List<Way> with) {
        refused("11 BAD", with, BAD, x -> x.point(1, -1), x -> x.point(9, 3), x -> x.point(3, MOST));
        refused("17 BAD", with, BAD, x -> x.ways(0, 0), x -> x.ways(1, 8), x -> x.ways(1024, 0), x -> x.ways(-2, 0));
        refused("17 UNKNOWN", with, UNKNOWN, x -> x.ways(2, -1), x -> x.ways(1022, 8));
        refused("18 BAD", with, BAD, x -> x.might(0), x -> x.might(1), x -> x.might(1024), x -> x.might(-2));
        refused("19 BAD", with, BAD, x -> x.learns(0), x -> x.learns(1), x -> x.learns(1024), x -> x.learns(-2));
    }

    private static void ofTooFewStores(List<Way> few) {
        refused("14 STATE", few, STATE, x -> x.fetch(1), x -> x.fetch(9));
        refused("16 STATE", few, STATE, x -> x.mends(1), x -> x.mends(9));
        refused("21 STATE", few, STATE, x -> x.fits(1, 0), x -> x.fits(9, 96));
    }

    private static void ofAnotherKind(List<Way> ways) {
        refused("6 CAST", ways, CAST, x -> x.taken(1, 2, 0), x -> x.taken(1, 3, 1), x -> x.taken(3, 1, 2),
            x -> x.taken(9, 1, 0), x -> x.taken(9, 2, 1), x -> x.taken(9, 3, 2));
    }

    /** NONE of a LAZY store is no refusal, but changes nothing either. */
    private static void noneChangesNothing(List<Way> ways) {
        refused("NONE", ways, NONE, x -> x.taken(3, 3, 1), x -> x.taken(3, 0, 2), x -> x.copy(3, 0),
            x -> x.both(3, 0), x -> x.pair(3, 1, 0, 0), x -> x.pair(1, 3, 0, 0));
    }
}
