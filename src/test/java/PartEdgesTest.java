import java.math.BigInteger;
import java.util.function.Supplier;

/**
 * The edges of the five parts of the document's terms: each sentence that names a limit, or what comes at it. Each test
 * is named after its part and what the sentence tells of.
 */
public final class PartEdgesTest {
    private static final int NONE = Edges.NONE;

    private static void due(String what, long got, long want) {
        Check.due(what, got, want);
    }

    private static void due(String what, boolean got, boolean want) {
        Check.due(what, got, want);
    }

    private static DawnPerquisite empty() {
        return new DawnPerquisite();
    }

    private static DawnPerquisite withoutOdds() {
        DawnPerquisite x = empty();
        for (int sort = 0; sort < 5; sort++) {
            x.sort(sort, 0, 7 + sort);
        }
        return x;
    }

    private static void fault(String text, int fault, int place) {
        Check.fault(text, fault, place);
    }

    private static void stands(String text) {
        Check.fault(text, 0, NONE);
    }

    // ---- I: what there is ----

    private static void part1SortsAtFirst() {
        DawnPerquisite x = empty();
        for (int sort = 0; sort < 5; sort++) {
            due("odds", x.ofSort(sort, 0), 1);
            due("worth", x.ofSort(sort, 1), 10 * sort);
        }
        due("four and no fifth", x.ofSort(5, 0), NONE);
    }

    private static void part1Odds0To9() {
        DawnPerquisite x = empty();
        due("0", x.sort(0, 0, 5), true);
        due("9", x.sort(1, 9, 5), true);
        due("10", x.sort(1, 10, 6), false);
        due("below 0", x.sort(0, -1, 6), false);
        due("as told", x.ofSort(0, 0) * 100 + x.ofSort(1, 0) * 10 + x.ofSort(0, 1), 95);
    }

    private static void part1Worth0To99() {
        DawnPerquisite x = empty();
        due("0", x.sort(3, 5, 0), true);
        due("99", x.sort(4, 5, 99), true);
        due("100", x.sort(4, 6, 100), false);
        due("below 0", x.sort(3, 6, -1), false);
        due("as told", x.ofSort(3, 1) * 1000 + x.ofSort(4, 1) * 10 + x.ofSort(4, 0), 995);
    }

    private static void part1Purse0To999() {
        DawnPerquisite x = empty();
        due("0", x.buyer(0, 0, 0, 0), 0);
        due("999", x.buyer(0, 0, 0, 999), 1);
        due("1000", x.buyer(0, 0, 0, 1000), NONE);
        due("below 0", x.buyer(0, 0, 0, -1), NONE);
        due("as told", x.of(0, 3) * 1000 + x.of(1, 3), 999);
        due("two", x.about(0), 2);
    }

    private static void part1Slices0To11() {
        DawnPerquisite x = empty();
        due("the first alone", x.buyer(0, 0, 0, 0), 0);
        due("the last alone", x.buyer(0, 11, 11, 0), 1);
        due("all", x.buyer(0, 0, 11, 0), 2);
        due("one ahead of the first", x.buyer(0, -1, 0, 0), NONE);
        due("one behind the last", x.buyer(0, 11, 12, 0), NONE);
        due("to below from", x.buyer(0, 6, 5, 0), NONE);
        due("slices", x.alone(0) + x.alone(1), 0);
        due("a crowd of two", x.crowd(false) * 100 + x.crowd(true), 200);
    }

    private static void part1BuyersNoSeventh() {
        DawnPerquisite x = empty();
        for (int buyer = 0; buyer < 6; buyer++) {
            due("one by one", x.buyer(31, 0, 0, 0), buyer);
        }
        due("the seventh", x.buyer(31, 0, 0, 0), NONE);
        due("six", x.about(0), 6);
        Check.text(x, "buyer 0 to 0;");
        due("nor by a text", x.played(0), 0);
    }

    private static void part1DawnAtFirst() {
        DawnPerquisite x = empty();
        due("sort", x.is(3), 0);
        due("twelve free", x.is(4), 4095);
        due("the first slice", x.at(0), NONE);
        due("the last slice", x.at(11), NONE);
        due("no thirteenth", x.at(12), -2);
        due("fund", x.is(2), 0);
        due("day", x.is(0), 0);
        due("X", x.is(1), 457);
    }

    private static DawnPerquisite richBy(int text) {
        DawnPerquisite x = Edges.rich();
        due("fund", x.is(2), 99792);
        x.by(0);
        x.sell(0);
        x.sell(1);
        due("fund", x.is(2), 99990);
        x.by(text);
        return x;
    }

    private static void part1FundNoMore() {
        DawnPerquisite x = richBy(1);
        due("for 8", x.sell(2), 8);
        due("below the most", x.is(2), 99998);
        DawnPerquisite y = richBy(2);
        due("for 9", y.sell(2), 9);
        due("just the most", y.is(2), 99999);
        due("for 9 more", y.sell(3), 9);
        due("no more", y.is(2), 99999);
        due("its purse is less", y.of(3, 3), 999 - 9);
        DawnPerquisite z = richBy(3);
        due("for 10", z.sell(2), 10);
        due("no more", z.is(2), 99999);
        due("written for all of it", z.book(24, 3), 10);
        due("taken back", z.undo(), 29);
        due("as ahead of it", z.is(2), 99990);
    }

    private static void part1DayAt9999NoneCanPass() {
        DawnPerquisite x = Edges.atDay(9998);
        due("two", x.day(2), NONE);
        due("nothing is done", x.is(0), 9998);
        due("one", x.day(1), x.is(3));
        due("the last day", x.is(0), 9999);
        due("none", x.day(1), NONE);
        due("none by years", x.years(2, 1), 9999);
        Check.text(x, "day 1;");
        due("none by a text", x.played(0), 0);
        due("still", x.is(0), 9999);
    }

    private static void part1DayWritesOneMore() {
        DawnPerquisite x = Edges.atDay(9998);
        x.give(0);
        x.day(1);
        x.give(1);
        due("given on the day as it is", x.book(22, 0), 9998);
        due("a dawn, one more", x.book(23, 0), 9999);
        due("its sort", x.book(23, 2), x.is(3));
        due("given on the last", x.book(24, 0), 9999);
        DawnPerquisite y = empty();
        y.day(1);
        due("the first dawn that comes is of day 1", y.book(0, 0), 1);
    }

    private static void part1BookTheLatest25() {
        for (int days = 24; days <= 27; days++) {
            DawnPerquisite x = empty();
            x.day(days);
            int lines = Math.min(days, 25);
            due("lines", x.book(NONE, 0), lines);
            due("the eldest", x.book(0, 0), days - lines + 1);
            due("the latest", x.book(lines - 1, 0), days);
            due("no more", x.book(lines, 0), -2);
            due("taken back", x.undo(), days - 1);
            due("lines then", x.book(NONE, 0), Math.min(days - 1, 25));
            due("the eldest then", x.book(0, 0), days - 1 - Math.min(days - 1, 25) + 1);
        }
    }

    private static void part1BookEachKind() {
        DawnPerquisite x = empty();
        x.sort(0, 1, 12);
        x.buyer(31, 0, 2, 9);
        x.buyer(31, 0, 4, 999);
        x.sell(0);
        x.pass(0, 1);
        x.give(11);
        x.turn(1);
        x.day(1);
        int[][] lines = {{0, 0, 0, 3}, {0, 4, 1, 4}, {0, 1, 11, 0}, {0, 2, 1, 0}, {1, 3, x.is(3), 0}};
        for (int i = 0; i < lines.length; i++) {
            for (int what = 0; what < 4; what++) {
                due("line " + i + " " + what, x.book(i, what), lines[i][what]);
            }
        }
        DawnPerquisite y = Edges.ruled("bids 99;", 999, 999, 999, 999, 999, 999);
        y.sell(5);
        due("the last buyer", y.book(0, 2), 5);
        due("for the most", y.book(0, 3), 99);
    }

    // ---- I: sold, given, turned away, passed on ----

    private static void part1SoldPurseAsMuchOrMore() {
        due("less by one", Edges.ruled("bids 50;", 49).sell(0), NONE);
        DawnPerquisite x = Edges.ruled("bids 50;", 50, 51);
        due("as much", x.sell(0), 50);
        due("nothing left", x.of(0, 3), 0);
        due("more", x.sell(1), 50);
        due("one left", x.of(1, 3), 1);
        due("fund", x.is(2), 100);
        due("the most by the most", Edges.ruled("bids 99;", 99).sell(0), 99);
        due("the most by one less", Edges.ruled("bids 99;", 98).sell(0), NONE);
    }

    private static void part1SoldForBidsAsAhead() {
        DawnPerquisite x = Edges.ruled("bids own;", 50);
        due("own ahead of it", x.sell(0), 50);
        due("nothing left", x.of(0, 3), 0);
        DawnPerquisite y = Edges.ruled("bids free;", 50, 50);
        due("free ahead of it", y.sell(0), 12);
        due("free behind it", y.sell(1), 11);
        due("what was paid", y.of(0, 3), 38);
    }

    private static void part1SoldAllSlicesFree() {
        for (int slice = 0; slice < 12; slice++) {
            DawnPerquisite x = empty();
            x.buyer(1, 3, 8, 0);
            x.give(slice);
            due("given " + slice, x.sell(0), slice >= 3 && slice <= 8 ? NONE : 0);
            due("free", Integer.bitCount(x.is(4)), slice >= 3 && slice <= 8 ? 11 : 5);
        }
        DawnPerquisite y = empty();
        y.buyer(1, 0, 5, 0);
        y.buyer(1, 6, 11, 0);
        y.buyer(1, 5, 5, 0);
        y.buyer(1, 6, 6, 0);
        due("the lower half", y.sell(0), 0);
        due("the upper half, behind it", y.sell(1), 0);
        due("the last of the lower", y.sell(2), NONE);
        due("the first of the upper", y.sell(3), NONE);
        due("none free", y.is(4), 0);
    }

    private static void part1SoldWantsTheSort() {
        for (int sort = 0; sort < 5; sort++) {
            DawnPerquisite x = withoutOdds();
            x.sort(sort, 1, 0);
            x.buyer(1 << sort, 0, 0, 0);
            x.buyer(31 - (1 << sort), 1, 1, 0);
            x.day(1);
            due("the sort", x.is(3), sort);
            due("wants it", x.sell(0), 0);
            due("wants all others", x.sell(1), NONE);
        }
    }

    private static void part1GivenAFreeSliceAlone() {
        DawnPerquisite x = empty();
        x.buyer(1, 3, 4, 0);
        x.sell(0);
        for (int slice = 0; slice < 12; slice++) {
            boolean free = slice != 3 && slice != 4;
            due("free", x.give(slice), free);
            due("not any more", x.give(slice), false);
            due("whose", x.at(slice), free ? 6 : 0);
        }
        due("steps", x.about(3), 11);
        due("purse stays", x.of(0, 3), 0);
    }

    private static void part1TurnedAwayThatHasAny() {
        DawnPerquisite x = Edges.ruled("bids 7;", 9, 9);
        due("has none", x.turn(0), false);
        x.sell(0);
        due("has one", x.turn(0), true);
        due("free again", x.at(0), NONE);
        due("what it paid stays", x.of(0, 3) * 10 + x.is(2), 27);
        due("has none any more", x.turn(0), false);
        due("can't be sold to again", x.sell(0), NONE);
        x.sell(1);
        x.day(1);
        due("none on the next dawn", x.turn(1), false);
    }

    private static void part1TurnedAwayOfWhatWasPassedOn() {
        DawnPerquisite x = passable(2, 5, 99);
        x.pass(0, 1);
        due("the first has none", x.turn(0), false);
        due("the other one", x.turn(1), true);
        due("all free", x.is(4), 4095);
    }

    /** Buyer 0 (of 9) has 2..4 for 3, at WORTH 12; buyer 1 wants as told. */
    private static DawnPerquisite passable(int from, int to, int purse) {
        DawnPerquisite x = empty();
        x.sort(0, 1, 12);
        x.buyer(1, 2, 4, 9);
        x.buyer(31, from, to, purse);
        due("sold", x.sell(0), 3);
        return x;
    }

    private static void passRefused(String what, Supplier<DawnPerquisite> wall) {
        Edges.unchanged(what, wall, (x, i) -> x.pass(0, 1), NONE);
    }

    private static void part1PassedOnWantsAllOfThese() {
        due("one more behind", passable(2, 5, 99).pass(0, 1), 3);
        due("one more ahead", passable(1, 4, 99).pass(0, 1), 3);
        due("all", passable(0, 11, 99).pass(0, 1), 7);
        passRefused("not the first of these", () -> passable(3, 11, 99));
        passRefused("not the last of these", () -> passable(0, 3, 99));
        passRefused("none of these", () -> passable(5, 11, 99));
    }

    private static void part1PassedOnBidsMore() {
        passRefused("as much", () -> passable(2, 4, 99));
        DawnPerquisite x = passable(2, 4, 99);
        x.by(Check.text(x, "bids 10+buyer;"));
        due("more by one", x.pass(0, 1), 10);
        DawnPerquisite y = passable(2, 5, 99);
        y.by(Check.text(y, "bids 10-buyer;"));
        due("less by one", y.pass(0, 1), NONE);
        DawnPerquisite z = passable(2, 4, 99);
        z.by(Check.text(z, "bids 10+buyer*2;"));
        due("more by two", z.pass(0, 1), 11);
    }

    private static void part1PassedOnAsNow() {
        DawnPerquisite x = passable(2, 5, 99);
        x.sort(0, 1, 36);
        due("both by worth as it is now", x.pass(0, 1), 10);
        DawnPerquisite y = passable(2, 5, 99);
        y.sort(0, 1, 0);
        due("both bid nothing now", y.pass(0, 1), NONE);
        DawnPerquisite z = passable(2, 5, 99);
        z.by(Check.text(z, "bids free+buyer*2+own;"));
        due("free and own as now", z.pass(0, 1), (9 + 6 + 99) / 2);
    }

    private static void part1PassedOnPurseAsMuchOrMore() {
        passRefused("less by one", () -> passable(2, 5, 2));
        DawnPerquisite x = passable(2, 5, 3);
        due("as much", x.pass(0, 1), 3);
        due("nothing left", x.of(1, 3), 0);
        DawnPerquisite y = passable(2, 5, 4);
        due("more", y.pass(0, 1), 3);
        due("one left", y.of(1, 3), 1);
        due("the first has more", y.of(0, 3), 9);
        due("the fund stays", y.is(2), 3);
    }

    private static void part1PassedOnThatHasNone() {
        DawnPerquisite x = empty();
        x.sort(0, 1, 12);
        x.buyer(1, 2, 4, 9);
        x.buyer(1, 5, 9, 99);
        x.buyer(1, 0, 11, 99);
        x.sell(0);
        x.sell(1);
        due("from one that has to another one", x.pass(0, 2), 7);
        due("now it has some", x.pass(1, 2), NONE);
        due("from one that has none", x.pass(0, 2), NONE);
        x.turn(2);
        due("turned away, it has none", x.pass(1, 2), 8);
        due("whose", x.at(5), 2);
        due("not what was turned away", x.at(4), NONE);
    }

    private static void part1PassedOnWantsTheSort() {
        passRefused("another sort", () -> {
            DawnPerquisite x = empty();
            x.sort(0, 1, 12);
            x.buyer(1, 2, 4, 9);
            x.buyer(30, 2, 5, 99);
            x.sell(0);
            return x;
        });
    }

    private static void part1PassedOn999AtMost() {
        int[] purses = {999, 998, 997};
        for (int purse : purses) {
            DawnPerquisite x = empty();
            x.sort(0, 1, 12);
            x.buyer(1, 2, 4, purse);
            x.buyer(1, 2, 6, 99);
            x.sell(0);
            due("for", x.pass(0, 1), 4);
            due("at most", x.of(0, 3), Math.min(999, purse - 3 + 4));
            due("all of it is paid", x.of(1, 3), 95);
        }
    }

    // ---- I: days and draws ----

    private static void part1DayPursesHeld() {
        DawnPerquisite x = Edges.ruled("earns 0-9;", 0, 8, 9, 10, 999, 1);
        x.day(1);
        int[] less = {0, 0, 0, 1, 990, 0};
        for (int buyer = 0; buyer < 6; buyer++) {
            due("less", x.of(buyer, 3), less[buyer]);
        }
        DawnPerquisite y = Edges.ruled("earns 9;", 999, 991, 990, 989, 0, 998);
        y.day(1);
        int[] more = {999, 999, 999, 998, 9, 999};
        for (int buyer = 0; buyer < 6; buyer++) {
            due("more", y.of(buyer, 3), more[buyer]);
        }
    }

    private static void part1DayOneBehindTheOther() {
        DawnPerquisite x = Edges.ruled("earns purse (1-buyer);", 3, 5);
        x.day(1);
        due("the first sees the second as it was", x.of(0, 3), 8);
        due("the second sees the first as it is then", x.of(1, 3), 13);
    }

    private static void part1DayEarnsAsAllIsThen() {
        DawnPerquisite x = Edges.ruled("earns has*4+free/12*2+day*5+sort*3;", 0, 0);
        x.by(NONE);
        x.sell(0);
        x.sort(0, 0, 0);
        x.sort(1, 1, 0);
        x.by(0);
        x.day(1);
        due("has ahead of the dawn, free, day and sort, too", x.of(0, 3) * 10 + x.of(1, 3), 40);
        x.day(1);
        due("the next day", x.of(0, 3) * 10 + x.of(1, 3), (4 + 9) * 10 + 9);
    }

    private static void part1DayAllSlicesFree() {
        DawnPerquisite x = Edges.busy();
        x.day(1);
        due("free", x.is(4), 4095);
        for (int buyer = 0; buyer < 4; buyer++) {
            due("has none", x.of(buyer, 6), 0);
        }
    }

    private static void part1DayNoneOfSixHasAny() {
        DawnPerquisite x = Edges.ruled("bids 1;", 9, 9, 9, 9, 9, 9);
        for (int buyer = 0; buyer < 6; buyer++) {
            x.sell(buyer);
        }
        x.day(1);
        due("free", x.is(4), 4095);
        for (int buyer = 0; buyer < 6; buyer++) {
            due("has none", x.of(buyer, 6), 0);
            due("none to turn away", x.turn(buyer), false);
            due("can be sold to again", x.sell(buyer), 1);
        }
    }

    private static void part1DrawWithoutOdds() {
        DawnPerquisite x = empty();
        x.day(1);
        due("a sort by draw", x.is(3), 2);
        int drawn = x.is(1);
        for (int sort = 0; sort < 5; sort++) {
            x.sort(sort, 0, 0);
        }
        due("sort 0", x.day(1), 0);
        due("no draw", x.is(1), drawn);
        due("sixty", x.day(60), 0);
        due("no draw", x.is(1), drawn);
        x.sort(4, 1, 0);
        due("one is enough", x.day(1), 4);
        due("drawn", x.is(1), Edges.anew(drawn));
    }

    private static void part1DrawIsTheFirstUpToWhich() {
        int[] sorts = {0, 0, 2, 2, 2, 4, 4, 4, 4, 0, 0, 2};
        for (int drawn = 0; drawn < sorts.length; drawn++) {
            DawnPerquisite x = Edges.drawnBy(drawn);
            int[] odds = {2, 0, 3, 0, 4};
            for (int sort = 0; sort < 5; sort++) {
                x.sort(sort, odds[sort], 0);
            }
            due("drawn by " + drawn, x.day(1), sorts[drawn]);
            due("X", x.is(1), drawn * 719 + 587);
        }
    }

    private static void part1DrawOfAllOdds() {
        int[] drawn = {8, 9, 44, 45, 53, 54, 31038};
        int[] sorts = {0, 1, 4, 0, 0, 1, 3};
        for (int i = 0; i < drawn.length; i++) {
            DawnPerquisite x = Edges.drawnBy(drawn[i]);
            for (int sort = 0; sort < 5; sort++) {
                x.sort(sort, 9, 0);
            }
            due("drawn by " + drawn[i], x.day(1), sorts[i]);
        }
    }

    /** X is always below 31039: what comes behind 0, behind the greatest, and what 0 and the greatest come of. */
    private static void part1DrawWrapsAround() {
        int[][] behind = {{0, 587}, {31038, 30907}, {42, 30785}, {43, 465}};
        for (int[] pair : behind) {
            DawnPerquisite x = Edges.drawnBy(pair[0]);
            x.sort(3, 1, 0);
            due("one is sure", x.day(1), 3);
            due("behind " + pair[0], x.is(1), pair[1]);
        }
        for (int due = 0; due < 31039; due += 31038) {
            int ahead = 0;
            while (Edges.anew(ahead) != due) {
                ahead++;
            }
            DawnPerquisite x = Edges.drawnBy(ahead);
            x.sort(3, 1, 0);
            due("one is sure", x.day(1), 3);
            due("behind " + ahead, x.is(1), due);
        }
    }

    // ---- I: steps ----

    private static void part1StepsTheLatest30() {
        for (int given = 28; given <= 33; given++) {
            DawnPerquisite x = empty();
            x.day(given);
            int left = Math.min(given, 30);
            due("how many", x.about(3), left);
            for (int i = 1; i <= left; i++) {
                due("left", x.undo(), left - i);
                due("the day ahead of it", x.is(0), given - i);
                due("the book", x.book(NONE, 0), Math.min(25, given - i));
            }
            due("none", x.undo(), NONE);
            due("stays", x.is(0), given - left);
        }
    }

    private static void part1StepsAfterManyMore() {
        DawnPerquisite x = empty();
        for (int round = 0; round < 4; round++) {
            x.day(17);
            due("back", x.undo(), Math.min(29, 17 * (round + 1) - 3 * round - 1));
            x.undo();
            x.undo();
        }
        due("the day", x.is(0), 56);
        x.day(60);
        for (int left = 29; left >= 0; left--) {
            due("left", x.undo(), left);
            due("the day", x.is(0), 86 + left);
        }
    }

    private static void takenBack(String what, Edges.Done step) {
        DawnPerquisite x = Edges.busy();
        int steps = x.about(3);
        step.to(x);
        due(what + " is one step", x.about(3), steps + 1);
        due(what + " is taken back", x.undo(), steps);
        Edges.same(what, x, Edges.busy());
    }

    private static void part1StepsAreAsAhead() {
        takenBack("sold", x -> x.sell(3));
        takenBack("given", x -> x.give(11));
        takenBack("turned away", x -> x.turn(1));
        takenBack("a day", x -> x.day(1));
        takenBack("years", x -> x.years(9999, 40));
        takenBack("years of nothing", x -> x.years(0, 1));
        DawnPerquisite x = passable(2, 5, 99);
        x.pass(0, 1);
        x.undo();
        Edges.same("passed on", x, passable(2, 5, 99));
    }

    private static void part1StepsOfDaysEach() {
        DawnPerquisite x = empty();
        x.day(5);
        due("five", x.about(3), 5);
        Check.text(x, "day 4;give 0;give 1;sort 1 by 1;buyer 0 to 0;bids 1;");
        x.played(0);
        due("by a text as by hand", x.about(3), 11);
    }

    private static void part1TellingIsNoStep() {
        DawnPerquisite x = Edges.four();
        x.sort(0, 1, 1);
        x.value(0, 1);
        x.paid(0, true);
        x.said(0, 1);
        Check.text(x, "bids 1;");
        x.by(0);
        x.image();
        x.back();
        due("none", x.undo(), NONE);
        due("nothing is taken back", x.about(0) * 10 + x.about(1), 41);
    }

    private static void part1StepsAndBuyersToldSince() {
        DawnPerquisite x = Edges.ruled("bids 7;earns 9;", 50);
        x.sell(0);
        x.buyer(31, 1, 3, 60);
        x.sell(1);
        x.buyer(31, 4, 4, 70);
        x.day(1);
        x.buyer(31, 5, 5, 999);
        x.sell(3);
        due("sold", x.of(3, 3), 992);
        due("taken back", x.undo(), 3);
        due("as ahead of it", x.of(3, 3), 999);
        due("taken back", x.undo(), 2);
        due("told since, the last", x.of(3, 3), 999);
        due("told ahead of it", x.of(2, 3), 70);
        due("sold ahead of it", x.of(1, 3), 53);
        due("has", x.of(1, 6), 3);
        due("taken back", x.undo(), 1);
        due("sold by this step", x.of(1, 3), 60);
        due("has none", x.of(1, 6), 0);
        due("told since", x.of(2, 3), 70);
        due("taken back", x.undo(), 0);
        due("told since", x.of(1, 3), 60);
        due("the first as it was", x.of(0, 3), 50);
        due("all free", x.is(4), 4095);
        due("all are there yet", x.about(0), 4);
    }

    private static void part1StepsAndBuyersToldSinceHaveNoSlices() {
        DawnPerquisite x = Edges.ruled("bids 7;", 50);
        x.give(11);
        x.buyer(31, 1, 3, 60);
        x.sell(1);
        x.undo();
        x.sell(1);
        x.day(1);
        x.sell(1);
        due("twice", x.of(1, 3), 60 - 7 + 1 - 7);
        x.undo();
        x.undo();
        x.undo();
        x.undo();
        due("purse as told", x.of(1, 3), 60);
        due("no slices", x.of(1, 6), 0);
        due("all free", x.is(4), 4095);
        due("can be sold to", x.sell(1), 7);
    }

    // ---- II: tokens ----

    private static void part2UpTo300Bytes() {
        stands("");
        stands(" ".repeat(300));
        stands("bids " + "1+".repeat(146) + "11;");
        fault("bids " + "1+".repeat(146) + "111", 1, 300);
        fault("bids " + "1+".repeat(147) + "1", 1, 300);
        stands("sort 0 by 0;".repeat(24) + " ".repeat(12));
        stands(" ".repeat(293) + "give 0;");
        fault(" ".repeat(294) + "give 0", 1, 300);
        fault(";".repeat(300), 1, 0);
        stands("bids 1" + "+1".repeat(146) + " ;");
        due("300 of them", ruledBid("bids " + "1+".repeat(146) + "11;", 0), 99);
        stands("bids " + "0".repeat(294) + ";");
        fault("bids " + "9".repeat(294) + ";", 2, 5);
        fault("b".repeat(300), 1, 0);
    }

    /** What buyer 0 (slice 0, a purse as told) bids by a text. */
    private static int ruledBid(String text, int purse) {
        return Edges.ruled(text, purse).of(0, 4);
    }

    private static void part2Blanks() {
        stands("\n bids\n\n1 \n ; \n");
        stands("bids1;");
        int[] others = {0, 1, 9, 11, 12, 13, 31, 33, 127, 128, 133, 160, 255};
        for (int other : others) {
            fault("bids " + (char) other + "1;", 1, 5);
            fault("give 0;" + (char) other, 1, 7);
        }
    }

    private static void part2LettersAreOneToken() {
        fault("bidsa 1;", 1, 0);
        fault("bidsz 1;", 1, 0);
        fault("bidsA 1;", 1, 0);
        fault("bidsZ 1;", 1, 0);
        fault("abids 1;", 1, 0);
        fault("Bids 1;", 1, 0);
        fault("BIDS 1;", 1, 0);
        fault("bid 1;", 1, 0);
        fault("bids@1;", 1, 4);
        fault("bids[1;", 1, 4);
        fault("bids`1;", 1, 4);
        fault("bids{1;", 1, 4);
        fault("bids _1;", 1, 5);
        fault("bids own1;", 1, 8);
        fault("bids ownday;", 1, 5);
        stands("bids own*day;");
    }

    private static void part2EachWordIsWhole() {
        String[] words = {"day", "buyer", "sort", "long", "own", "free", "wants"};
        for (String word : words) {
            stands("bids " + word + ";");
            fault("bids " + word + "s;", 1, 5);
            fault("bids " + word.substring(1) + ";", 1, 5);
            fault("bids " + word.substring(0, word.length() - 1) + ";", 1, 5);
        }
    }

    private static void part2DigitsAreOneToken() {
        stands("bids 0;");
        stands("bids 9;");
        fault("bids 1 2;", 1, 7);
        fault("bids 1:2;", 1, 6);
        stands("bids 1/2;");
        fault("bids /2;", 1, 5);
        fault("bids 1.2;", 1, 6);
        fault("bids 1023456789/1;", 2, 5);
        due("a number", ruledBid("bids 9876-9798;", 0), 78);
        due("a number", ruledBid("bids 5432-5410;", 0), 22);
    }

    private static void part2Numbers0To9999() {
        stands("bids 9999;");
        fault("bids 10000;", 2, 5);
        fault("bids 9999+10000;", 2, 10);
        fault("bids 4294967296;", 2, 5);
        fault("bids 4294967297;", 2, 5);
        fault("bids 18446744073709551617;", 2, 5);
        fault("bids 2147483648;", 2, 5);
        stands("bids 0;");
        due("9999", ruledBid("bids 9999-9990;", 0), 9);
        fault("give 4294967297;", 2, 5);
        fault("day 4294967297;", 2, 4);
        fault("sort 4294967296 by 1;", 2, 5);
        fault("sort 1 by 4294967296;", 2, 10);
        fault("buyer 0 to 4294967296;", 2, 11);
    }

    private static void part2TheLongestToken() {
        stands("bids if 1<=2 then 3 else 4 end;");
        stands("bids if 1>=2 then 3 else 4 end;");
        fault("bids if 1< =2 then 3 else 4 end;", 1, 11);
        fault("bids if 1>\n=2 then 3 else 4 end;", 1, 11);
        fault("bids if 1=<2 then 3 else 4 end;", 1, 10);
        fault("bids if 1=>2 then 3 else 4 end;", 1, 10);
        fault("bids if 1<==2 then 3 else 4 end;", 1, 11);
        fault("bids if 1<<=2 then 3 else 4 end;", 1, 10);
        fault("bids if 1<>2 then 3 else 4 end;", 1, 10);
        fault("bids if 1==2 then 3 else 4 end;", 1, 10);
        fault("bids if 1##2 then 3 else 4 end;", 1, 10);
        fault("bids if 1#=2 then 3 else 4 end;", 1, 10);
        fault("bids if 1<", 1, 10);
        fault("bids if 1<=", 1, 11);
        fault("bids if 1>", 1, 10);
        fault("bids if 1>=", 1, 11);
    }

    // ---- II: clauses ----

    private static void part2Clauses24() {
        stands("give 0;".repeat(24));
        fault("give 0;".repeat(25), 6, 168);
        fault("give 0;".repeat(24) + " give", 6, 169);
        fault("give 0;".repeat(24) + "bids !", 6, 168);
        fault("give 0;".repeat(24) + "earns 1;", 6, 168);
        fault("give 0;".repeat(24) + "day 61;", 6, 168);
        stands("bids 1;earns 1;" + "give 0;".repeat(22));
        fault("bids 1;earns 1;" + "give 0;".repeat(23), 6, 169);
        stands("give 0;".repeat(23) + "earns 1;");
        String[] begins = {"bids", "earns", "buyer", "sort", "sell", "give", "turn", "day"};
        for (String begin : begins) {
            fault("give 0;".repeat(24) + "\n" + begin, 6, 169);
        }
    }

    private static void part2LawsOnceEach() {
        stands("bids 1;earns 1;");
        stands("earns 1;bids 1;");
        fault("bids 1;bids 1;", 4, 7);
        fault("bids 1;earns 1; bids 1;", 4, 16);
        fault("earns 1;earns 1;", 4, 8);
        fault("earns 1;bids 1;\nearns 1;", 4, 16);
        fault("bids 1;bids", 4, 7);
        stands("sort 1 by 1;sort 1 by 1;");
    }

    private static void part2BuyerClause() {
        stands("buyer 0 to 0;");
        stands("buyer 0 to 11;");
        stands("buyer 11 to 11;");
        stands("buyer 4 to 4;");
        fault("buyer 12 to 11;", 2, 6);
        fault("buyer 12 to 12;", 2, 6);
        fault("buyer 11 to 12;", 2, 12);
        fault("buyer 0 to 12;", 2, 11);
        fault("buyer 4 to 3;", 2, 11);
        fault("buyer 11 to 10;", 2, 12);
        fault("buyer 1 to 0;", 2, 11);
        fault("buyer 0 to 10000;", 2, 11);
        fault("buyer 10000 to 0;", 2, 6);
        fault("buyer 1 by 2;", 1, 8);
        fault("buyer 1 2;", 1, 8);
        fault("buyer 1 to;", 1, 10);
        fault("buyer to 1;", 1, 6);
        fault("buyer 1 to 2", 1, 12);
    }

    private static void part2BuyerClausePlayed() {
        DawnPerquisite x = empty();
        Check.text(x, "buyer 0 to 11;buyer 11 to 11;");
        due("both", x.played(0), NONE);
        int[][] due = {{31, 0, 11, 50}, {31, 11, 11, 50}};
        for (int buyer = 0; buyer < 2; buyer++) {
            for (int what = 0; what < 4; what++) {
                due("of " + buyer + " " + what, x.of(buyer, what), due[buyer][what]);
            }
        }
        due("both", x.played(0), NONE);
        due("both", x.played(0), NONE);
        due("the seventh can't be", x.played(0), 0);
        due("six", x.about(0), 6);
    }

    private static void part2SortClause() {
        stands("sort 0 by 0;");
        stands("sort 4 by 9;");
        fault("sort 5 by 9;", 2, 5);
        fault("sort 4 by 10;", 2, 10);
        fault("sort 5 by 10;", 2, 5);
        fault("sort 4 to 9;", 1, 7);
        fault("sort 4 by;", 1, 9);
        DawnPerquisite x = empty();
        x.sort(4, 1, 99);
        Check.text(x, "sort 0 by 0;sort 4 by 9;");
        due("both", x.played(0), NONE);
        due("odds 0", x.ofSort(0, 0), 0);
        due("odds 9", x.ofSort(4, 0), 9);
        due("worth as it is", x.ofSort(4, 1), 99);
        due("no step", x.about(3), 0);
    }

    private static void part2SellGiveTurnDayClauses() {
        stands("sell 0;sell 5;");
        fault("sell 6;", 2, 5);
        stands("turn 0;turn 5;");
        fault("turn 6;", 2, 5);
        stands("give 0;give 11;");
        fault("give 12;", 2, 5);
        stands("day 1;day 60;");
        fault("day 0;", 2, 4);
        fault("day 61;", 2, 4);
        String[] begins = {"sell", "turn", "give"};
        for (String begin : begins) {
            fault(begin + " 9999;", 2, 5);
            fault(begin + " 10000;", 2, 5);
            fault(begin + " -1;", 1, 5);
            fault(begin + ";", 1, 4);
            fault(begin + " own;", 1, 5);
            fault(begin + " 1 1;", 1, 7);
        }
        fault("day -1;", 1, 4);
        fault("day;", 1, 3);
    }

    // ---- II: faults ----

    private static void part2FaultTheFirstThatIsComeTo() {
        fault("sell 9;bids !", 2, 5);
        fault("bids !;sell 9;", 1, 5);
        fault("bids has;bids 1;", 5, 5);
        fault("bids 1;bids has;", 4, 7);
        fault("bids 10000+has;", 2, 5);
        fault("bids has+10000;", 5, 5);
        fault("bids (((((((((has;", 3, 13);
        fault("give 0;".repeat(24) + "give 99;!", 6, 168);
        fault("give 99;" + "give 0;".repeat(24), 2, 5);
    }

    private static void part2FaultOfTheEndAtTheLength() {
        String[] cut = {"bids", "bids 1", "bids (1", "bids 1+", "bids -", "bids if", "bids if 1<2", "bids if 1<2 then 3 else",
            "earns worth", "buyer", "buyer 1", "buyer 1 to", "buyer 1 to 2", "sort", "sort 1 by", "sell", "give 1", "turn", "day 1"};
        for (String text : cut) {
            fault(text, 1, text.length());
            fault(text + " \n ", 1, text.length() + 3);
        }
        fault("bids ((((((((", 1, 13);
        fault("give 0;".repeat(23) + "give", 1, 165);
    }

    private static void part2FaultOfOneTheLeast() {
        fault("10000", 1, 0);
        fault("bids 1 10000;", 1, 7);
        fault("bids 1 has;", 1, 7);
        fault("has", 1, 0);
        fault("earns 1;earns 1 wants;", 4, 8);
        fault("bids ((((((((+", 1, 13);
        fault("bids ((((((((not", 1, 13);
        fault("bids ((((((((1(", 1, 14);
        fault("bids ((((((((1 worth", 1, 15);
        fault("bids ((((((if not 1 if", 1, 20);
        fault("give 0;".repeat(24) + ";", 1, 168);
        fault("give 0;".repeat(24) + "1", 1, 168);
        fault("give 0;".repeat(24) + "10000", 1, 168);
        fault("give 0;".repeat(24) + "has", 1, 168);
        fault("give 0;".repeat(24) + "to", 1, 168);
        fault("give 0;".repeat(24) + "by", 1, 168);
        fault("give 0;".repeat(24) + "if", 1, 168);
        fault("give 0;".repeat(24) + "!", 1, 168);
        fault("give 0;".repeat(23) + "bids 1;bids 1;", 4, 168);
        fault("give 0;".repeat(23) + "earns 1;earns 1;", 4, 169);
    }

    private static void part2FaultThatCantStand() {
        fault("1;", 1, 0);
        fault(";", 1, 0);
        fault("to", 1, 0);
        fault("by", 1, 0);
        fault("worth", 1, 0);
        fault("wants", 1, 0);
        fault("(", 1, 0);
        fault("bids;", 1, 4);
        fault("bids ();", 1, 6);
        fault("bids (1;", 1, 7);
        fault("bids 1);", 1, 6);
        fault("bids +1;", 1, 5);
        fault("bids 1+;", 1, 7);
        fault("bids 1*/2;", 1, 7);
        fault("bids 1*+2;", 1, 7);
        fault("bids 1++2;", 1, 7);
        fault("bids 2+1*+2+3;", 1, 9);
        fault("bids (1*+2);", 1, 8);
        fault("bids if 1*+2=2 then 1 else 1 end;", 1, 10);
        fault("bids if 1=2*+2 then 1 else 1 end;", 1, 12);
        fault("bids if 1=2 and or 1=1 then 1 else 1 end;", 1, 16);
        fault("bids if not or 1=1 then 1 else 1 end;", 1, 12);
        fault("bids worth;", 1, 10);
        fault("bids not 1=1;", 1, 5);
        fault("bids 1=1;", 1, 6);
        fault("bids then;", 1, 5);
        fault("bids if 1 then 2 else 3 end;", 1, 10);
        fault("bids if 1=1 then 2 end;", 1, 19);
        fault("bids if 1=1 then 2 else 3;", 1, 25);
        fault("bids if (1=1) then 2 else 3 end;", 1, 10);
        fault("bids if 1=1=1 then 2 else 3 end;", 1, 11);
        fault("bids if 1=1 and then 2 else 3 end;", 1, 16);
        fault("bids if 1=1 or not then 2 else 3 end;", 1, 19);
        fault("bids if 1=1 else 2 then 3 end;", 1, 12);
        fault("bids 1;;", 1, 7);
    }

    private static void part2FaultTheNinthOpen() {
        String eight = "bids ((((((((";
        String[] ninth = {"(1", "worth 1", "purse 1", "if 1=1", "-1"};
        for (String open : ninth) {
            fault(eight + open, 3, 13);
            fault("bids (((((((-" + open, 3, 13);
            fault("bids (((((((" + open, 1, 12 + open.length());
        }
        fault("bids (((((((if not 1=1", 3, 15);
        fault("bids (((((((if 1=1 and not 1=1", 3, 23);
        fault("bids (((((((if 1=1 or not 1=1", 3, 22);
        fault("bids ((((((if not not 1=1", 3, 18);
        stands("bids ((((((((1))))))));");
        stands("bids --------1;");
        fault("bids ---------1;", 3, 13);
        stands("bids " + "worth ".repeat(8) + "1;");
        fault("bids " + "worth ".repeat(9) + "1;", 3, 53);
        stands("bids " + "purse ".repeat(8) + "1;");
        fault("bids " + "purse ".repeat(9) + "1;", 3, 53);
        stands("bids if " + "not ".repeat(7) + "1=1 then 1 else 1 end;");
        fault("bids if " + "not ".repeat(8) + "1=1 then 1 else 1 end;", 3, 36);
        stands("bids " + "if 1=1 then ".repeat(8) + "1" + " else 1 end".repeat(8) + ";");
        fault("bids " + "if 1=1 then ".repeat(9) + "1" + " else 1 end".repeat(9) + ";", 3, 5 + 12 * 8);
        stands("bids " + "if 1=1 then 1 else ".repeat(8) + "1" + " end".repeat(8) + ";");
        fault("bids " + "if 1=1 then 1 else ".repeat(9) + "1" + " end".repeat(9) + ";", 3, 5 + 19 * 8);
        fault("earns " + "(".repeat(9), 3, 14);
    }

    private static void part2FaultOpenAroundOneAnotherAlone() {
        stands("bids " + "(1)+".repeat(9) + "(1);");
        stands("bids " + "-1+".repeat(9) + "-1;");
        stands("bids 1" + "-1".repeat(12) + ";");
        stands("bids " + "worth 1*".repeat(9) + "purse 1;");
        stands("bids if " + "not 1=1 and ".repeat(9) + "not 1=1 then 1 else 1 end;");
        stands("bids " + "if 1=1 then 1 else 1 end+".repeat(9) + "1;");
        stands("bids (((((((if 1=1 then 1 else 1 end+(1))))))));");
        stands("bids (((((((worth 1+(1))))))));");
        stands("bids (((((((-1+(1))))))));");
        stands("bids (((((((1-(1))))))));");
        stands("bids (((((if not 1=1 and not (1)=1 then (1) else (1) end)))));");
        fault("bids (((((((worth (1))))))));", 3, 18);
        fault("bids (((((((-(1))))))));", 3, 13);
        fault("bids (((((((if (1)=1", 3, 15);
        fault("bids (((((((if 1=(1)", 3, 17);
        fault("bids (((((((if 1=1 then (1)", 3, 24);
        fault("bids (((((((if 1=1 then 1 else (1)", 3, 31);
        fault("bids ((((((if not (1)=1", 3, 18);
        fault("bids ((((((((1))))))))+(((((((((1)))))))));", 3, 31);
        stands("bids ((((((((1))))))));earns ((((((((1))))))));");
    }

    private static void part2FaultNameOfAnotherClause() {
        fault("bids has;", 5, 5);
        fault("earns wants;", 5, 6);
        stands("bids wants;");
        stands("earns has;");
        fault("earns 1;bids 1+has;", 5, 15);
        fault("bids 1;earns 1+wants;", 5, 15);
        fault("bids wants;earns wants;", 5, 17);
        fault("earns has;bids has;", 5, 15);
        fault("bids ((((((((has))))))));", 5, 13);
        stands("bids day+buyer+sort+long+own+free+wants;earns day+buyer+sort+long+own+free+has;");
    }

    private static void part2FaultsLeaveNoText() {
        DawnPerquisite x = empty();
        Check.text(x, "bids 5;earns 6;give 3;");
        Check.text(x, "give 4;give 5;give 6;bids 7;earns 8;!");
        due("one", x.about(1), 1);
        due("by the second", x.by(1), false);
        due("played by the second", x.played(1), -2);
        due("the next one", Check.text(x, "give 9;"), 1);
        x.buyer(31, 0, 0, 0);
        due("by it", x.by(1), true);
        due("no bids left of the faulty one", x.of(0, 4), 0);
        due("no earns left", x.of(0, 5), 1);
        due("played", x.played(1), NONE);
        due("not by the faulty one's clauses", x.is(4), 4095 - 512);
        due("but by its own", x.at(9), 6);
        due("the first stays", x.by(0), true);
        due("its bids", x.of(0, 4), 5);
    }

    private static void part2FaultsLeaveNoRoomTaken() {
        DawnPerquisite x = empty();
        x.buyer(31, 0, 0, 0);
        for (int i = 0; i < 4; i++) {
            due("a fault", Check.text(x, "bids " + "1+".repeat(146) + "1;!"), NONE);
            due("at", x.fault(1), 299);
        }
        due("as long as can be", Check.text(x, "bids " + "1+".repeat(74) + "1;earns 1" + "-1".repeat(68) + ";"), 0);
        due("it rules", x.by(0), true);
        due("bids", x.of(0, 4), 75);
        due("earns", x.of(0, 5), -9);
    }

    // ---- II: sums ----

    private static void part2OverCutsTowards0() {
        Check.bids("7/2", 3);
        Check.bids("8/2", 4);
        Check.bids("(0-7)/2+9", 6);
        Check.bids("7/(0-2)+9", 6);
        Check.bids("(0-7)/(0-2)", 3);
        Check.bids("(0-1)/2+9", 9);
        Check.bids("1/2", 0);
        Check.bids("-7/2+9", 6);
        Check.bids("24/4/2", 3);
        Check.bids("9-7/2*2", 3);
    }

    private static void part2OverBy0Is0() {
        Check.bids("5/0+4", 4);
        Check.bids("0/0+4", 4);
        Check.bids("(0-5)/0+4", 4);
        Check.bids("5/(3-3)+4", 4);
        Check.bids("9999*9999/0+4", 4);
        Check.bids("5/0/0+4", 4);
        Check.bids("0/5+4", 4);
    }

    /** 999900 less and 20 less are 80 below 1000000. */
    private static void part2AboveAMillionIsThat() {
        String less = "-9999*100-20";
        Check.bids("1000*1000" + less, 80);
        Check.bids("1000*1000+1" + less, 80);
        Check.bids("1000*1000-1" + less, 79);
        Check.bids("1000*999+999+1" + less, 80);
        Check.bids("1000*999+999+2" + less, 80);
        Check.bids("9999*9999" + less, 80);
        Check.bids("(1000*1000)*(1000*1000)" + less, 80);
        Check.bids("(0-1000*1000)*(0-1000*1000)" + less, 80);
        Check.bids("-(0-1000*1000)" + less, 80);
        Check.bids("0-(0-1000*1000-1)" + less, 80);
        Check.bids("1000*1000+1000*1000" + less, 80);
        Check.bids("1000*1000/1" + less, 80);
    }

    private static void part2BelowAMillionLikewise() {
        String more = "+9999*100+150";
        Check.bids("0-1000*1000" + more, 50);
        Check.bids("0-1000*1000-1" + more, 50);
        Check.bids("0-1000*1000+1" + more, 51);
        Check.bids("-(1000*1000)" + more, 50);
        Check.bids("-(1000*1000)-1" + more, 50);
        Check.bids("(0-1000*1000)*(1000*1000)" + more, 50);
        Check.bids("(0-9999)*9999" + more, 50);
        Check.bids("0-1000*1000-1000*1000" + more, 50);
        Check.bids("1000*1000/(0-1)" + more, 50);
    }

    private static void part2AtEachStep() {
        Check.bids("1000*1000+50-10-9999*100-20", 70);
        Check.bids("9999*9999-9999*100-20", 80);
        Check.bids("9999*9999/9999-90", 10);
        Check.bids("2*1000*1000/2-9999*50", 50);
        Check.bids("2*1000*1000/2/9999", 50);
        Check.bids("0-1000*1000-50+10+9999*100+150", 60);
        Check.bids("if 1000*1000+1=1000*1000 then 3 else 4 end", 3);
        Check.bids("if 0-1000*1000-1=0-1000*1000 then 3 else 4 end", 3);
        Check.bids("if 1000*1000>1000*1000-1 then 3 else 4 end", 3);
    }

    private static void part2WorthAndPurseForOthers() {
        Check.bids("worth 0", 0);
        Check.bids("worth 1", 10);
        Check.bids("worth 4", 40);
        Check.bids("worth 5+1", 1);
        Check.bids("worth -1+1", 1);
        Check.bids("worth 9999+1", 1);
        Check.bids("worth (1000*1000)+1", 1);
        Check.bids("worth (0-1000*1000)+1", 1);
        Check.bids("purse 0", 5);
        Check.bids("purse 1", 77);
        Check.bids("purse 2+1", 1);
        Check.bids("purse 5+1", 1);
        Check.bids("purse 6+1", 1);
        Check.bids("purse -1+1", 1);
        Check.bids("purse 9999+1", 1);
        Check.bids("purse (1000*1000)+1", 1);
        Check.bids("purse (0-1000*1000)+1", 1);
        due("the last buyer's", Edges.ruled("bids purse 5;", 1, 2, 3, 4, 5, 66).of(0, 4), 66);
        due("none's", Edges.ruled("bids purse 6+7;", 1, 2, 3, 4, 5, 66).of(0, 4), 7);
        due("the first buyer's", Edges.ruled("bids purse 0;", 11, 2, 3, 4, 5, 66).of(5, 4), 11);
        DawnPerquisite x = Edges.ruled("bids worth 0+worth 1;", 0);
        x.sort(0, 1, 60);
        x.sort(1, 1, 6);
        due("of the first sort, too", x.of(0, 4), 66);
    }

    private static void part2AsksAtTheirEdges() {
        String[] signs = {"<", "<=", ">", ">=", "=", "#"};
        int[][] due = {{1, 0, 0}, {1, 1, 0}, {0, 0, 1}, {0, 1, 1}, {0, 1, 0}, {1, 0, 1}};
        for (int sign = 0; sign < 6; sign++) {
            for (int left = 6; left <= 8; left++) {
                Check.bids("if " + left + signs[sign] + "7 then 1 else 0 end", due[sign][left - 6]);
                Check.bids("if not " + left + signs[sign] + "7 then 1 else 0 end", 1 - due[sign][left - 6]);
                Check.bids("if -7" + signs[sign] + "-" + left + " then 1 else 0 end", due[sign][left - 6]);
            }
        }
        Check.bids("2*if 1=2 then 3 else 4 end+1", 9);
        Check.bids("2*if 1=1 then 3 else 4 end+1", 7);
        Check.bids("5+if 1=2 then 3 else 4 end*3", 17);
        Check.bids("5+if 1=1 then 3 else 4 end*3", 14);
        Check.bids("if 1=1 then 3 else 4 end+if 1=2 then 3 else 4 end*10", 43);
        Check.bids("if 1=1 then if 1=2 then 5 else 6 end+1 else 4 end", 7);
        Check.bids("if 1=2 then 4 else if 1=1 then 5 else 6 end+1 end", 6);
        String[] both = {"1=2", "1=1"};
        for (int a = 0; a < 2; a++) {
            for (int b = 0; b < 2; b++) {
                Check.bids("if " + both[a] + " or " + both[b] + " then 1 else 0 end", a | b);
                Check.bids("if " + both[a] + " and " + both[b] + " then 1 else 0 end", a & b);
                Check.bids("if not " + both[a] + " and " + both[b] + " then 1 else 0 end", (1 - a) & b);
                Check.bids("if " + both[a] + " and 1=1 or " + both[b] + " and 1=1 then 1 else 0 end", a | b);
            }
        }
    }

    private static void part2Bids0To99() {
        Check.bids("0", 0);
        Check.bids("0-1", 0);
        Check.bids("1", 1);
        Check.bids("98", 98);
        Check.bids("99", 99);
        Check.bids("100", 99);
        Check.bids("9999*9999", 99);
        Check.bids("0-9999*9999", 0);
        due("sold for the most", Edges.ruled("bids 100;", 999).sell(0), 99);
        due("sold for the least", Edges.ruled("bids 0-1;", 0).sell(0), 0);
    }

    private static void part2BidsWithout() {
        int[][] worthLongBids = {{99, 12, 99}, {99, 11, 90}, {99, 1, 8}, {11, 1, 0}, {12, 1, 1}, {0, 12, 0}, {23, 1, 1}, {1, 12, 1},
            {1, 11, 0}, {24, 1, 2}, {8, 3, 2}, {7, 3, 1}};
        for (int[] told : worthLongBids) {
            DawnPerquisite x = empty();
            x.sort(0, 1, told[0]);
            x.buyer(0, 0, told[1] - 1, 0);
            x.buyer(0, 12 - told[1], 11, 0);
            due("bids", x.of(0, 4), told[2]);
            due("bids", x.of(1, 4), told[2]);
            Check.text(x, "earns 1;");
            x.by(0);
            due("by a text without", x.of(0, 4), told[2]);
        }
    }

    private static void part2EarnsWithinNine() {
        String[] sums = {"0-10", "0-9", "0-8", "0", "8", "9", "10", "9999*9999", "0-9999*9999"};
        int[] due = {-9, -9, -8, 0, 8, 9, 9, 9, -9};
        for (int i = 0; i < sums.length; i++) {
            due("earns " + sums[i], Edges.ruled("earns " + sums[i] + ";", 50).of(0, 5), due[i]);
        }
        due("without a text", Edges.four().of(0, 5), 1);
        due("by a text without", Edges.ruled("bids 9;", 50).of(0, 5), 1);
    }

    private static void part2WantsTheSortOrNot() {
        DawnPerquisite x = withoutOdds();
        for (int sort = 0; sort < 5; sort++) {
            x.buyer(1 << sort, sort, sort, 0);
        }
        x.buyer(0, 11, 11, 0);
        x.by(Check.text(x, "bids wants*7+2;"));
        for (int sort = 0; sort < 5; sort++) {
            x.sort(sort, 9, 0);
            x.day(1);
            x.sort(sort, 0, 0);
            due("the sort", x.is(3), sort);
            for (int buyer = 0; buyer < 6; buyer++) {
                due("of " + buyer, x.of(buyer, 4), buyer == sort ? 9 : 2);
            }
            for (int other = 0; other < 5; other++) {
                due("of a pack", x.pack(other, false), 9);
            }
        }
    }

    private static void part2NamesAtTheirEdges() {
        DawnPerquisite x = Edges.last();
        x.by(Check.text(x, "bids day/101;earns day-9995;"));
        due("the last day", x.of(0, 4) * 10 + x.of(0, 5), 994);
        DawnPerquisite y = Edges.ruled("bids long*10+free;earns has;", 99);
        due("one of twelve", y.of(0, 4), 22);
        y.buyer(31, 0, 11, 999);
        due("twelve of twelve", y.of(1, 4), 99);
        due("has none", y.of(1, 5), 0);
        y.sell(1);
        due("none free", y.of(0, 4), 10);
        due("has twelve, nine at most", y.of(1, 5), 9);
        DawnPerquisite z = Edges.ruled("bids buyer*20-own;", 999, 0, 0, 0, 0, 1);
        due("the first", z.of(0, 4), 0);
        due("the last", z.of(5, 4), 99);
    }

    // ---- II: played ----

    private static void part2PlayedOneThatCantBeEndsIt() {
        String[] texts = {"give 0;give 0;give 1;", "give 0;turn 0;give 1;", "give 0;sell 0;give 1;", "give 0;sell 5;give 1;",
            "give 0;turn 5;give 1;"};
        for (String text : texts) {
            DawnPerquisite x = empty();
            x.buyer(1, 0, 0, 0);
            Check.text(x, text);
            due("played by " + text, x.played(0), 1);
            due("what was done stays", x.at(0), 6);
            due("no more", x.at(1), NONE);
            due("one step", x.about(3), 1);
        }
    }

    private static void part2PlayedAsByHand() {
        DawnPerquisite x = Edges.ruled("sell 5;sell 0;give 11;turn 5;sell 4;day 2;sell 1;", 9, 9, 9, 9, 9, 9);
        DawnPerquisite y = Edges.ruled("sell 5;sell 0;give 11;turn 5;sell 4;day 2;sell 1;", 9, 9, 9, 9, 9, 9);
        due("played", x.played(0), NONE);
        y.sell(5);
        y.sell(0);
        y.give(11);
        y.turn(5);
        y.sell(4);
        y.day(2);
        y.sell(1);
        Edges.same("played as by hand", x, y);
    }

    private static void part2PlayedNumberAmongAll() {
        DawnPerquisite x = empty();
        Check.text(x, "bids 1;earns 1;sell 0;");
        due("laws count", x.played(0), 2);
        Check.text(x, "bids 1;");
        due("a law alone", x.played(1), NONE);
        Check.text(x, "");
        due("nothing", x.played(2), NONE);
        Check.text(x, "turn 0;");
        due("the first", x.played(3), 0);
        due("nothing was done", x.about(3), 0);
    }

    private static void part2PlayedThoseDaysThatCan() {
        DawnPerquisite x = Edges.atDay(9996);
        Check.text(x, "day 3;give 0;");
        Check.text(x, "day 4;give 1;");
        Check.text(x, "day 60;");
        x.image();
        due("all three", x.played(0), NONE);
        due("the last day", x.is(0), 9999);
        due("given", x.at(0), 6);
        due("none can pass", x.played(0), 0);
        x.back();
        due("three of four", x.played(1), 0);
        due("the last day", x.is(0), 9999);
        due("not given", x.at(1), NONE);
        due("a step each", x.undo(), 29);
        due("the day", x.is(0), 9998);
        x.back();
        due("three of sixty", x.played(2), 0);
        due("the last day", x.is(0), 9999);
    }

    // ---- III ----

    private static void part3ForetoldThoseThatCanPass() {
        for (int left = 0; left <= 2; left++) {
            DawnPerquisite x = Edges.four();
            Edges.passed(x, 9999 - left);
            x.sort(0, 3, 0);
            DawnPerquisite y = Edges.four();
            Edges.passed(y, 9999 - left);
            y.sort(0, 3, 0);
            if (left > 0) {
                y.day(left);
            }
            int purses = y.of(0, 3) + y.of(1, 3) + y.of(2, 3) + y.of(3, 3);
            for (int n = Math.max(1, left); n <= 60; n += n < 4 ? 1 : 56) {
                due("the sort behind " + n, x.foretold(n, 0), y.is(3));
                due("purses behind " + n, x.foretold(n, 1), purses);
            }
            due("nothing is done", x.is(0), 9999 - left);
        }
    }

    private static void part3ForetoldByLawsAsTheyAreThen() {
        DawnPerquisite x = Edges.ruled("earns has*9-day;", 50, 60);
        x.by(NONE);
        x.sell(0);
        x.by(0);
        due("one day", x.foretold(1, 1), 59 + 60);
        due("two days", x.foretold(2, 1), 58 + 59);
        due("sixty days", x.foretold(60, 1), 0);
        due("still sold", x.of(0, 6), 1);
    }

    private static void part3PackNoneInTwoHands() {
        DawnPerquisite x = empty();
        x.sort(4, 1, 24);
        x.buyer(16, 0, 5, 0);
        x.buyer(16, 6, 11, 0);
        due("side by side", x.pack(4, true) * 100 + x.pack(4, false), 324);
        x.buyer(16, 5, 6, 0);
        due("the third is in both hands", x.pack(4, true), 3);
        due("all three", x.see(7, 4), NONE);
        due("the third and the first", x.see(5, 4), NONE);
        due("the third and the second", x.see(6, 4), NONE);
        due("the third alone", x.see(4, 4), 4);
        due("the pair", x.see(3, 4), 24);
        due("nobody wants that sort", x.see(1, 3), NONE);
    }

    private static void part3PackOfLikeOnesTheLowestSet() {
        DawnPerquisite x = Edges.ruled("bids 10;", 0, 0, 0);
        x.buyer(31, 0, 2, 0);
        due("three are more than one", x.pack(0, true), 7);
        DawnPerquisite y = Edges.ruled("bids if buyer=3 then 30 else 10 end;", 0, 0, 0);
        y.buyer(31, 0, 2, 0);
        due("as much: the lowest set", y.pack(0, true), 7);
        DawnPerquisite z = Edges.ruled("bids if buyer=0 then 20 else 10 end;");
        z.buyer(31, 0, 5, 0);
        z.buyer(31, 0, 2, 0);
        z.buyer(31, 3, 5, 0);
        due("as much: one of number 0", z.pack(0, true), 1);
        DawnPerquisite none = Edges.ruled("bids 0;", 0, 0, 0, 0, 0, 0);
        due("nothing is as much as nothing", none.pack(0, true), 0);
        due("it brings", none.pack(0, false), 0);
        DawnPerquisite some = Edges.ruled("bids buyer/5;", 0, 0, 0, 0, 0, 0);
        due("those who bid nothing aren't in it", some.pack(0, true), 32);
        due("but they may have to", some.see(31, 0), 1);
    }

    private static void part3PackOfAnEmptyDawnWhateverPurses() {
        DawnPerquisite x = Edges.ruled("bids 9;", 999, 0, 999);
        for (int slice = 0; slice < 12; slice++) {
            x.give(slice);
        }
        due("all", x.pack(0, true), 7);
        due("brings", x.pack(0, false), 27);
        DawnPerquisite y = Edges.ruled("bids free+sort;", 0, 0);
        y.give(11);
        due("free as now, of that sort", y.pack(4, false), 30);
        due("of another", y.pack(0, false), 22);
    }

    private static void part3HopeInLowestTerms() {
        DawnPerquisite x = empty();
        int[][] told = {{9, 95}, {9, 97}, {9, 99}, {9, 98}, {8, 96}};
        for (int sort = 0; sort < 5; sort++) {
            x.sort(sort, told[sort][0], told[sort][1]);
        }
        BigInteger up = BigInteger.ZERO;
        BigInteger down = BigInteger.ONE;
        for (int n = 0; n <= 6; n++) {
            BigInteger common = up.gcd(down);
            due("upper " + n, x.hope(n, false), up.divide(common).longValueExact());
            due("lower " + n, x.hope(n, true), down.divide(common).longValueExact());
            BigInteger sum = BigInteger.ZERO;
            for (int[] sort : told) {
                sum = sum.add(down.multiply(BigInteger.valueOf(sort[1])).max(up).multiply(BigInteger.valueOf(sort[0])));
            }
            up = sum;
            down = down.multiply(BigInteger.valueOf(44));
        }
    }

    private static void part3HopeOfNoneAndWithoutOdds() {
        due("none", empty().hope(0, false) * 10 + empty().hope(0, true), 1);
        DawnPerquisite x = withoutOdds();
        due("none", x.hope(0, false) * 10 + x.hope(0, true), 1);
        for (int n = 1; n <= 6; n++) {
            due("sort 0 is sure", x.hope(n, false) * 10 + x.hope(n, true), 71);
        }
        x.sort(4, 1, 11);
        due("one is enough", x.hope(6, false) * 10 + x.hope(6, true), 111);
        DawnPerquisite y = empty();
        for (int sort = 0; sort < 5; sort++) {
            y.sort(sort, 9, 0);
        }
        due("worth nothing, in lowest terms", y.hope(6, false) * 10 + y.hope(6, true), 1);
    }

    private static void part3KeepMoreThanWorth() {
        DawnPerquisite x = withoutOdds();
        x.sort(3, 9, 50);
        x.sort(0, 0, 49);
        due("less", x.keep(1), true);
        x.sort(0, 0, 50);
        due("as much", x.keep(1), false);
        due("as much, of six", x.keep(6), false);
        x.sort(0, 0, 51);
        due("more", x.keep(6), false);
        x.day(1);
        due("of the sort as it is", x.keep(6), false);
        x.sort(0, 1, 99);
        due("of the sort as it is", x.keep(1), true);
        DawnPerquisite y = withoutOdds();
        due("without odds the sort itself", y.keep(6), false);
        y.sort(0, 0, 0);
        due("of 0: 0", y.keep(0), false);
    }

    private static void part3ChanceWithoutOdds() {
        DawnPerquisite x = withoutOdds();
        for (int sort = 0; sort < 5; sort++) {
            due("sort 0 is sure", x.chance(sort, false) * 10 + x.chance(sort, true), sort == 0 ? 11 : 1);
        }
        x.sort(4, 9, 0);
        due("the one of odds is sure", x.chance(4, false) * 10 + x.chance(4, true), 11);
        due("never then", x.chance(0, false) * 10 + x.chance(0, true), 1);
    }

    /** Which days a sort of these odds takes, another one's odds told. */
    private static int days(int odds, int others) {
        DawnPerquisite x = withoutOdds();
        x.sort(4, odds, 0);
        for (int sort = 0; sort < 4; sort++) {
            x.sort(sort, Math.min(9, Math.max(0, others - 9 * sort)), 0);
        }
        return x.first(4);
    }

    private static void part3ByWhenOneHalfWillDo() {
        due("one half", days(5, 5), 1);
        due("a little less", days(4, 5), 2);
        due("a little more", days(5, 4), 1);
        due("sure", days(9, 0), 1);
        due("a third", days(1, 2), 2);
        due("two sevenths: 25 of 49 don't", days(2, 5), 3);
        due("three tenths: 49 of 100 don't", days(3, 7), 2);
    }

    private static void part3ByWhenTenAtMost() {
        due("one of 13", days(1, 12), 9);
        due("one of 14", days(1, 13), 10);
        due("one of 15", days(1, 14), NONE);
        due("two of 29", days(2, 27), 10);
        due("two of 30", days(2, 28), NONE);
        due("three of 44", days(3, 36), 9);
        due("one of 37", days(1, 36), NONE);
        due("none of 36", days(0, 36), NONE);
        due("none of none", days(0, 0), NONE);
        due("without odds sort 0", withoutOdds().first(0), 1);
        due("without odds another", withoutOdds().first(1), NONE);
    }

    private static void part3WhatItWas() {
        DawnPerquisite x = Edges.four();
        x.sort(1, 0, 0);
        due("of odds above 0", x.was(), 29);
        x.paid(1, true);
        due("who wants 1 and 2 paid", x.was(), 4);
        x.paid(2, false);
        due("who wants 2 didn't", x.was(), 0);
        DawnPerquisite y = withoutOdds();
        y.buyer(1, 0, 0, 0);
        y.buyer(30, 0, 0, 0);
        due("without odds sort 0", y.was(), 1);
        y.paid(0, true);
        y.paid(1, false);
        due("without odds sort 0", y.was(), 1);
        y.paid(NONE, true);
        y.paid(1, true);
        due("none", y.was(), 0);
        due("likeliest of none", y.likeliest(), NONE);
        due("surest of none", y.surest(false) * 10 + y.surest(true), 1);
    }

    private static void part3LikeliestOfLikeOnesTheLowest() {
        DawnPerquisite x = empty();
        for (int sort = 0; sort < 5; sort++) {
            x.sort(sort, 9, 0);
        }
        due("the lowest", x.likeliest(), 0);
        x.sort(0, 8, 0);
        due("the lowest of most", x.likeliest(), 1);
        due("nine of 44", x.surest(false) * 100 + x.surest(true), 944);
        x.buyer(16, 0, 0, 0);
        x.paid(0, true);
        due("the last", x.likeliest(), 4);
        due("sure", x.surest(false) * 100 + x.surest(true), 101);
    }

    private static void part3WhomToAsk() {
        DawnPerquisite x = empty();
        x.buyer(0, 0, 0, 0);
        due("who wants none of these, when there is none else", x.ask(), 0);
        x.buyer(31, 0, 0, 0);
        due("of like ones the lowest", x.ask(), 0);
        x.buyer(1, 0, 0, 0);
        due("the greater part is least", x.ask(), 2);
        x.buyer(30, 0, 0, 0);
        due("of like ones the lowest", x.ask(), 2);
        x.buyer(3, 0, 0, 0);
        due("the greater part is least", x.ask(), 4);
        x.buyer(28, 0, 0, 0);
        due("of like ones the lowest", x.ask(), 4);
        x.paid(4, true);
        due("those not told yet", x.ask(), 2);
        x.paid(2, true);
        due("one fits", x.ask(), NONE);
        due("one fits", x.was(), 1);
        x.paid(3, true);
        due("none fits", x.ask(), NONE);
        DawnPerquisite y = Edges.four();
        for (int buyer = 0; buyer < 4; buyer++) {
            y.paid(buyer, false);
        }
        due("two fit", y.was(), 24);
        due("all are told", y.ask(), NONE);
        y.buyer(8, 0, 0, 0);
        due("one isn't", y.ask(), 4);
    }

    private static void part3AuctionForWhatTheNextBids() {
        DawnPerquisite x = Edges.ruled("bids 5+buyer;");
        int[] none = {x.auction(0, 0), x.auction(0, 1), x.auction(0, 2)};
        due("nobody", none[0] + none[1] + none[2], -3);
        x.buyer(31, 0, 0, 0);
        due("alone", x.auction(0, 0) * 100 + x.auction(0, 1) * 10 + x.auction(0, 2), 1);
        x.buyer(31, 0, 0, 0);
        due("the second has it", x.auction(0, 0) * 100 + x.auction(0, 1) * 10 + x.auction(0, 2), 152);
        x.buyer(31, 0, 0, 0);
        due("the third has it", x.auction(0, 0) * 100 + x.auction(0, 1) * 10 + x.auction(0, 2), 263);
        DawnPerquisite y = Edges.ruled("bids 9-buyer;", 0, 0, 0);
        y.buyer(31, 0, 2, 0);
        due("the first has it, cut", y.auction(0, 0) * 100 + y.auction(0, 1) * 10 + y.auction(0, 2), 22);
        DawnPerquisite z = Edges.ruled("bids 7;");
        for (int buyer = 0; buyer < 6; buyer++) {
            z.buyer(31, 11, 11, 0);
        }
        due("of like ones the lowest, for as much", z.auction(11, 0) * 100 + z.auction(11, 1) * 10 + z.auction(11, 2), 76);
    }

    private static void part3AuctionByHowManySlices() {
        DawnPerquisite x = Edges.ruled("bids if buyer=0 then 11 else 12 end;");
        x.buyer(31, 0, 11, 0);
        due("cut to nothing, alone", x.auction(11, 0) * 100 + x.auction(11, 1) * 10 + x.auction(11, 2), 1);
        x.buyer(31, 0, 11, 0);
        due("one each", x.auction(11, 0) * 100 + x.auction(11, 1) * 10 + x.auction(11, 2), 102);
        x.buyer(30, 11, 11, 0);
        due("who doesn't want the sort", x.auction(11, 2), 2);
        x.buyer(31, 10, 10, 0);
        due("who doesn't want the slice", x.auction(11, 2), 2);
        DawnPerquisite y = Edges.ruled("bids 0;", 0, 0);
        y.buyer(31, 0, 1, 0);
        due("who bids nothing bids, too", y.auction(0, 0) * 100 + y.auction(0, 1) * 10 + y.auction(0, 2), 2);
    }

    private static void part3HoursOfLikeOnesTheLowest() {
        int[][] buyers = {{3, 8}, {8, 11}, {0, 3}, {2, 2}, {4, 7}, {9, 10}};
        int[] sets = {1 << 3, 1 << 8, 1 | 1 << 8, 1 << 2 | 1 << 8, 1 << 2 | 1 << 4 | 1 << 8, 1 << 2 | 1 << 4 | 1 << 9};
        DawnPerquisite x = empty();
        due("without buyers", x.stab(false) + x.stab(true), 0);
        for (int i = 0; i < 6; i++) {
            x.buyer(0, buyers[i][0], buyers[i][1], 0);
            due("hours of " + (i + 1), x.stab(false), sets[i]);
            due("how many", x.stab(true), Integer.bitCount(sets[i]));
        }
    }

    private static void part3CrowdTheLowestSlice() {
        DawnPerquisite x = empty();
        due("without buyers", x.crowd(false) + x.crowd(true), 0);
        x.buyer(0, 6, 11, 0);
        due("the first of six", x.crowd(true) * 10 + (x.crowd(false)), 61);
        x.buyer(31, 0, 5, 0);
        due("of like ones the lowest", x.crowd(true) * 10 + x.crowd(false), 1);
        x.buyer(31, 5, 6, 0);
        due("two at two slices", x.crowd(true) * 10 + x.crowd(false), 52);
        x.buyer(31, 11, 11, 0);
        due("two at three slices", x.crowd(true) * 10 + x.crowd(false), 52);
        x.buyer(31, 11, 11, 0);
        due("three at the last", x.crowd(true) * 10 + x.crowd(false), 113);
    }

    private static void part3DawnsByFromTheLowest() {
        DawnPerquisite x = empty();
        int[][] told = {{4, 11}, {0, 4}, {5, 6}, {0, 0}, {1, 4}, {7, 11}};
        int[] dawns = {2, 0, 0, 1, 1, 0};
        for (int[] buyer : told) {
            x.buyer(0, buyer[0], buyer[1], 0);
        }
        for (int buyer = 0; buyer < 6; buyer++) {
            due("dawn of " + buyer, x.dawns(buyer), dawns[buyer]);
        }
        DawnPerquisite y = empty();
        for (int buyer = 0; buyer < 6; buyer++) {
            y.buyer(31, 0, 11, 0);
        }
        for (int buyer = 5; buyer >= 0; buyer--) {
            due("of like ones by number", y.dawns(buyer), buyer);
            due("asked again", y.dawns(5), 5);
        }
    }

    private static void part3MonthInLowestTerms() {
        DawnPerquisite x = Edges.ruled("bids sort+5;", 0);
        due("sort 0 alone", x.month(60, false) * 10 + x.month(60, true), 3001);
        x.sort(0, 9, 0);
        x.sort(4, 9, 0);
        x.sort(3, 1, 0);
        due("8 + 9 * 5 + 9 * 9 of 19", x.month(1, false) * 100 + x.month(1, true), 13419);
        due("nineteen", x.month(19, false) * 100 + x.month(19, true), 13401);
        due("sixty", x.month(60, false) * 100 + x.month(60, true), 134 * 60 * 100 + 19);
        DawnPerquisite y = withoutOdds();
        y.sort(0, 0, 12);
        y.buyer(31, 0, 11, 0);
        due("without odds sort 0 is sure", y.month(60, false) * 10 + y.month(60, true), 7201);
    }

    // ---- IV ----

    private static DawnPerquisite values(int... values) {
        DawnPerquisite x = empty();
        for (int slice = 0; slice < values.length; slice++) {
            x.value(slice, values[slice]);
        }
        return x;
    }

    private static void part4ByEnds() {
        for (int slice = 0; slice < 12; slice++) {
            DawnPerquisite x = empty();
            x.value(slice, 99);
            due("one alone", x.ends(slice, slice), 99);
            due("at the left end", x.ends(slice, 11), 99);
            due("at the right end", x.ends(0, slice), 99);
            if (slice > 0 && slice < 11) {
                due("in the middle of three", x.ends(slice - 1, slice + 1), -99);
                due("second of all", x.ends(0, 11), 99);
            }
        }
        due("below 0: less", values(1, 99, 1).ends(0, 2), -97);
        due("just 0", values(1, 2, 1).ends(0, 2), 0);
        due("of twelve", values(99, 0, 99, 0, 99, 0, 99, 0, 99, 0, 99, 0).ends(0, 11), 594);
        due("of eleven", values(0, 99, 0, 99, 0, 99, 0, 99, 0, 99, 0).ends(0, 10), -495);
        due("of two", values(3, 8).ends(0, 1), 5);
    }

    private static void part4ToTake() {
        due("the left, if as good", values(5, 5).take(0, 1), 0);
        due("the right by one", values(5, 6).take(0, 1), 1);
        due("the left by one", values(6, 5).take(0, 1), 0);
        due("as good, the most in the middle", values(9, 10, 5).take(0, 2), 0);
        due("as good, the most in the middle", values(5, 10, 9).take(0, 2), 0);
        due("as good, though less at once", values(4, 9, 5).take(0, 2), 0);
        due("the right of four", values(1, 50, 2, 50).take(0, 3), 1);
        due("one alone", values(5, 6).take(1, 1), 0);
        due("the most at once", values(9, 0, 99).take(0, 2), 1);
        due("not the left, for what it leaves", values(60, 99, 10, 20).take(0, 3), 1);
        due("not the right, for what it leaves", values(20, 10, 99, 60).take(0, 3), 0);
        due("nothing would be left", values(9, 0, 99, 0).take(0, 3), 0);
        due("as good in three", values(4, 9, 4).take(0, 2), 0);
        due("the right in three", values(4, 0, 5).take(0, 2), 1);
        due("within", values(0, 0, 0, 0, 0, 0, 0, 0, 0, 0, 7, 8).take(10, 11), 1);
    }

    private static void part4TheBestRun() {
        int[][] told = {{0, 0, -50, 0, 0}, {0, 11, 12, 2, 4}, {5, 11, 9, 8, 10}, {1, 1, -1, 1, 1}, {4, 4, 12, 4, 4}, {2, 3, 0, 2, 2},
            {11, 11, -50, 11, 11}, {2, 4, 12, 2, 4}, {3, 4, 12, 3, 4}};
        DawnPerquisite x = values(0, 49, 50, 50, 62, 0, 49, 47, 55, 49, 55, 0);
        for (int[] run : told) {
            for (int what = 0; what < 3; what++) {
                due(run[0] + " to " + run[1] + " " + what, x.best(run[0], run[1], what), run[2 + what]);
            }
        }
        DawnPerquisite y = values(40, 60, 40, 60, 40, 60);
        due("the lowest first, then the lowest last", y.best(0, 5, 1) * 10 + y.best(0, 5, 2), 11);
        DawnPerquisite z = values(60, 40, 60, 40, 50, 50);
        due("from the first, no further than it must", z.best(0, 5, 1) * 10 + z.best(0, 5, 2), 0);
        due("what it is", z.best(0, 5, 0), 10);
        due("the last alone", values(0, 0, 0, 49, 51).best(1, 4, 1) * 10 + values(0, 0, 0, 49, 51).best(1, 4, 2), 44);
        due("the last alone, and less than nothing", values(0, 0, 1).best(0, 2, 1) * 10 + values(0, 0, 1).best(0, 2, 2), 22);
        due("up to the last", values(0, 51, 49, 52).best(0, 3, 1) * 10 + values(0, 51, 49, 52).best(0, 3, 2), 13);
        due("the most", values(99, 99, 99, 99, 99, 99, 99, 99, 99, 99, 99, 99).best(0, 11, 0), 588);
    }

    private static void part4SaidEightAtMost() {
        DawnPerquisite x = Edges.four();
        for (int said = 1; said <= 8; said++) {
            due("how many", x.said(3, 0), said);
        }
        due("the ninth", x.said(3, 0), -2);
        due("eight", x.about(5), 8);
        due("no text", x.whose(), 0);
        Check.text(x, "bids 0;");
        due("all are so", x.whose(), 1);
        due("none any more", x.said(NONE, 0), 0);
        due("anew", x.said(3, 99), 1);
        due("not so", x.whose(), 0);
    }

    private static void part4WhoseLaw() {
        DawnPerquisite x = Edges.four();
        x.sort(0, 1, 24);
        Check.text(x, "earns 1;");
        Check.text(x, "bids long*2;");
        Check.text(x, "bids 8;");
        Check.text(x, "bids long*2+own-own/99*99-own;");
        due("nothing said", x.whose(), 15);
        x.said(0, 8);
        due("all are so", x.whose(), 15);
        x.said(3, 2);
        due("by what is so without, and by its bids", x.whose(), 11);
        x.sort(0, 1, 12);
        due("as now", x.whose(), 10);
        x.said(0, 9);
        due("one is not so", x.whose(), 0);
        x.said(NONE, 0);
        x.said(1, 0);
        due("by the law of her who has 99", x.whose(), 8);
    }

    private static void part4TheEighthSaidCounts() {
        for (int odd = 0; odd < 8; odd++) {
            DawnPerquisite x = Edges.ruled("bids 5;", 0);
            for (int said = 0; said < 8; said++) {
                x.said(0, said == odd ? 6 : 5);
            }
            due("all but number " + odd + " are so", x.whose(), 0);
            x.image();
            x.said(NONE, 0);
            for (int said = 0; said < 8; said++) {
                x.said(0, 5);
            }
            due("all are so", x.whose(), 1);
            x.back();
            due("back: all but number " + odd, x.whose(), 0);
            DawnPerquisite y = Edges.ruled("bids buyer*5+5;", 0, 0);
            for (int said = 0; said < 8; said++) {
                y.said(said == odd ? 1 : 0, said == odd ? 10 : 5);
            }
            due("all are so", y.whose(), 1);
            y.image();
            y.said(NONE, 0);
            for (int said = 0; said < 8; said++) {
                y.said(said == odd ? 0 : 1, 7);
            }
            due("none is so", y.whose(), 0);
            y.back();
            due("back: number " + odd + " is so, too", y.whose(), 1);
        }
    }

    private static void part4RichestAbove0() {
        due("one above 0", Edges.ruled("", 0, 1, 0).richest(), 1);
        due("none above 0", Edges.ruled("", 0, 0, 0).richest(), NONE);
        due("of like ones the lowest", Edges.ruled("", 0, 7, 7).richest(), 1);
        due("by one", Edges.ruled("", 6, 7, 8).richest(), 2);
        DawnPerquisite x = Edges.ruled("bids 5;", 5, 0);
        x.sell(0);
        due("none any more", x.richest(), NONE);
    }

    private static void part4LearntAndSinceOfDawnsInBook() {
        DawnPerquisite x = withoutOdds();
        due("none", x.learnt(0, false) * 100 + x.learnt(0, true), 105);
        due("none", x.since(0), NONE);
        x.day(1);
        due("one", x.learnt(0, false) * 100 + x.learnt(0, true), 103);
        due("the one as it is", x.since(0), 0);
        x.sort(4, 1, 0);
        x.day(1);
        due("one of two", x.learnt(0, false) * 100 + x.learnt(0, true), 207);
        due("a day ago", x.since(0), 1);
        for (int slice = 0; slice < 12; slice++) {
            x.give(slice);
        }
        x.day(1);
        for (int slice = 0; slice < 10; slice++) {
            x.give(slice);
        }
        due("25 lines", x.book(NONE, 0), 25);
        due("the eldest line", x.since(0), 2);
        due("of three dawns", x.learnt(0, false) * 100 + x.learnt(0, true), 104);
        x.give(10);
        due("not in the book any more", x.since(0), NONE);
        due("of two dawns", x.learnt(0, false) * 100 + x.learnt(0, true), 107);
        x.undo();
        due("taken back", x.since(0), 2);
    }

    /** A line of another kind is no dawn, though its number be the sort's. */
    private static void part4SinceAndLearntOfDawnsAlone() {
        DawnPerquisite x = withoutOdds();
        x.sort(4, 1, 0);
        x.buyer(31, 2, 2, 99);
        x.buyer(31, 3, 3, 99);
        x.day(1);
        x.give(0);
        x.sell(1);
        x.turn(1);
        for (int sort = 0; sort < 4; sort++) {
            due("no dawn", x.since(sort), NONE);
            due("no dawn", x.learnt(sort, false) * 100 + x.learnt(sort, true), 106);
        }
    }

    private static void part4IdleThatNoBuyerWantsWhoWantsTheSort() {
        DawnPerquisite x = empty();
        x.buyer(30, 0, 11, 0);
        due("nobody wants the sort", x.idle(), 4095);
        x.buyer(1, 0, 0, 0);
        due("all but the first", x.idle(), 4094);
        x.buyer(1, 11, 11, 0);
        due("all but the ends", x.idle(), 2046);
        x.give(5);
        due("not free", x.idle(), 2046 - 32);
        x.sell(1);
        due("wanted and sold", x.idle(), 2046 - 32);
        x.buyer(1, 0, 11, 0);
        due("none", x.idle(), 0);
    }

    private static void part4PoorLessThanBids() {
        DawnPerquisite x = Edges.ruled("bids 7;", 6, 7, 8, 0, 999);
        due("less than bids", x.poor(), 9);
        due("whatever sort they want", Edges.ruled("bids 7;").poor(), 0);
        DawnPerquisite y = empty();
        y.sort(0, 1, 12);
        y.buyer(30, 0, 0, 0);
        due("who doesn't want the sort", y.poor(), 1);
    }

    private static void part4RoomTheLowest() {
        DawnPerquisite x = empty();
        int[] given = {2, 5, 9};
        for (int slice : given) {
            x.give(slice);
        }
        int[] due = {0, 0, 6, NONE};
        for (int slices = 1; slices <= 4; slices++) {
            due("room for " + slices, x.room(slices), due[slices - 1]);
        }
        x.undo();
        due("six up to the last", x.room(6), 6);
        due("seven", x.room(7), NONE);
    }

    private static void part4Rivals() {
        DawnPerquisite x = empty();
        x.buyer(3, 3, 6, 0);
        x.buyer(2, 0, 3, 0);
        x.buyer(2, 0, 2, 0);
        x.buyer(1, 6, 11, 0);
        x.buyer(1, 7, 11, 0);
        x.buyer(28, 0, 11, 0);
        due("a sort and a slice", x.rival(0), 2 | 8);
        due("not itself", x.rival(1), 1 | 4);
        due("no sort in common", x.rival(5), 0);
    }

    private static void part4ByTheBook() {
        DawnPerquisite x = withoutOdds();
        x.buyer(31, 0, 0, 9);
        for (int slice = 1; slice < 12; slice++) {
            x.give(slice);
        }
        x.sell(0);
        x.turn(0);
        x.day(12);
        int[] many = {1, 11, 1, 12, 0};
        for (int kind = 0; kind < 5; kind++) {
            due("25 lines, of kind " + kind, x.ledger(kind), many[kind]);
        }
        x.give(0);
        due("the eldest is gone", x.ledger(1), 11);
        x.give(1);
        due("one more is gone", x.ledger(1), 11);
        x.day(1);
        due("one more is gone", x.ledger(1), 10);
        due("one more dawn", x.ledger(3), 13);
    }

    // ---- V ----

    private static void part5SeedAndN() {
        DawnPerquisite x = withoutOdds();
        due("seed 0", x.years(0, 1), 0);
        due("X", x.is(1), Edges.anew(457));
        due("seed 9999", x.years(9999, 1), 0);
        due("X", x.is(1), Edges.anew(20455));
        due("seed below 0", x.years(-1, 1), NONE);
        due("seed 10000", x.years(10000, 1), NONE);
        due("n 0", x.years(0, 0), NONE);
        due("n 41", x.years(0, 41), NONE);
        due("X stays", x.is(1), Edges.anew(20455));
        int drawn = 457;
        int days = 0;
        for (int i = 0; i < 40; i++) {
            days += drawn % 6 > 3 ? 1 : 0;
            drawn = Edges.anew(drawn);
        }
        due("n 40", x.years(0, 40), days);
        due("X", x.is(1), drawn);
        due("steps", x.about(3), 3);
        due("taken back as one", x.undo(), 2);
        due("X as ahead of it", x.is(1), Edges.anew(20455));
        due("the day as ahead of it", x.is(0), 0);
    }

    /** A seed whose first year has that x: x is SEED * 2 + 457. */
    private static int seedOf(int x) {
        return (x - 457) / 2;
    }

    private static void part5SoldIfItCanBe() {
        DawnPerquisite x = Edges.ruled("bids 9;", 9, 8);
        // 469: mod 6 is 1, by 6 is 78: buyer 0
        x.years(seedOf(469), 1);
        due("sold", x.at(0), 0);
        due("nothing left", x.of(0, 3), 0);
        x.years(seedOf(469), 1);
        due("sold already: nothing", x.book(NONE, 0), 1);
        // 475: by 6 is 79: buyer 1, who has too little; 481: 80: buyer 2, who is not told
        x.years(seedOf(475), 1);
        x.years(seedOf(481), 1);
        due("too poor, not told: nothing", x.book(NONE, 0), 1);
        due("X", x.is(1), Edges.anew(481));
        due("a step each", x.about(3), 4);
        due("fund", x.is(2), 9);
    }

    private static void part5SoldToTheSixth() {
        DawnPerquisite x = Edges.ruled("bids 9;", 9, 9, 9, 9, 9, 9);
        // 463: mod 6 is 1, by 6 is 77: buyer 5
        due("a multiple of six behind 5", 77 % 6, 5);
        x.years(seedOf(463), 1);
        due("sold", x.at(5), 5);
    }

    /** The first x of two years is idle, and the second one is x. */
    private static void secondYear(DawnPerquisite wall, int x) {
        for (int first = 457; first <= 20455; first += 2) {
            if (Edges.anew(first) == x && (first % 6 == 1 || first % 6 == 3) && first / 6 % 6 == 5) {
                wall.years(seedOf(first), 2);
                return;
            }
        }
        due("a first year ahead of " + x, 0, 1);
    }

    private static int evenYear(int slice, int third) {
        for (int first = 457; first <= 20455; first += 2) {
            int x = Edges.anew(first);
            if ((first % 6 == 1 || first % 6 == 3) && first / 6 % 6 == 5 && x % 6 == 2 && x % 12 == slice && x / 6 % 3 == third) {
                return x;
            }
        }
        return NONE;
    }

    private static void part5GivenIfOneOfThree() {
        int[] slices = {2, 8};
        for (int slice : slices) {
            for (int third = 0; third < 3; third++) {
                DawnPerquisite x = empty();
                int year = evenYear(slice, third);
                secondYear(x, year);
                due("given by " + year, x.at(slice), third == 1 ? 6 : NONE);
                due("X", x.is(1), Edges.anew(year));
                secondYear(x, year);
                due("given already: nothing", x.book(NONE, 0), third == 1 ? 1 : 0);
            }
        }
    }

    private static void part5TurnedAwayIfThreeOfFour() {
        DawnPerquisite x = Edges.ruled("bids 1;", 9, 9);
        x.sell(0);
        x.sell(1);
        // 471: mod 6 and mod 4 are 3, by 6 is 78: buyer 0; 477: mod 6 is 3, mod 4 is 1, by 6 is 79: buyer 1
        x.years(seedOf(477), 1);
        due("not by one of four", x.at(1), 1);
        x.years(seedOf(471), 1);
        due("turned away", x.at(0), NONE);
        due("a line", x.book(NONE, 0), 3);
        x.years(seedOf(471), 1);
        due("has none: nothing", x.book(NONE, 0), 3);
        // 483: mod 6 and mod 4 are 3, by 6 is 80: buyer 2, who is not told
        x.years(seedOf(483), 1);
        due("not told: nothing", x.book(NONE, 0), 3);
        due("steps", x.about(3), 6);
    }

    private static void part5ADayIfItCanPass() {
        // 461: mod 6 is 5
        DawnPerquisite x = Edges.atDay(9998);
        due("the last day", x.years(seedOf(461), 1), 9999);
        due("a line", x.book(24, 0), 9999);
        due("drawn by X behind x", x.is(1), Edges.anew(Edges.anew(461)));
        due("none can pass", x.years(seedOf(461), 1), 9999);
        due("no draw then", x.is(1), Edges.anew(461));
        due("a step, too", x.undo(), 29);
        due("X as ahead of it", x.is(1), Edges.anew(Edges.anew(461)));
        due("forty, none can pass", x.years(9999, 40), 9999);
        DawnPerquisite y = withoutOdds();
        y.years(seedOf(461), 1);
        due("no draw without odds", y.is(1), Edges.anew(461));
        due("a day", y.is(0), 1);
    }

    private static void part5YearsAreOneStep() {
        DawnPerquisite x = Edges.busy();
        int steps = x.about(3);
        int day = x.years(9999, 40);
        due("days", day > 2, true);
        due("one", x.about(3), steps + 1);
        due("taken back", x.undo(), steps);
        due("the day", x.is(0), 2);
        DawnPerquisite y = Edges.full();
        y.years(9999, 40);
        due("thirty at most", y.about(3), 30);
    }

    private static void part5TheImageButTapeAndFault() {
        DawnPerquisite x = empty();
        Check.text(x, "bids !");
        Check.tape(x, "give 0;");
        due("an image", x.image(), 0);
        Check.tape(x, "give 0;give 1;");
        due("back", x.back(), 0);
        due("the tape is as it was", x.about(6), 14);
        due("read", x.text(), 0);
        due("back", x.back(), 0);
        due("no text any more", x.about(1), 0);
        due("the latest fault is as it was", x.fault(0), 0);
        due("its place", x.fault(1), NONE);
    }

    private static void part5BackToAllOfIt() {
        DawnPerquisite x = Edges.full();
        x.back();
        DawnPerquisite y = empty();
        for (int buyer = 0; buyer < 6; buyer++) {
            y.buyer(31, 2 * buyer, 2 * buyer + 1, 999 - buyer);
            y.paid(buyer, true);
        }
        for (int text = 0; text < 4; text++) {
            Check.text(y, "bids " + (text + 5) + ";");
        }
        y.by(3);
        for (int said = 0; said < 8; said++) {
            y.said(said % 6, 8);
        }
        y.image();
        Check.tape(y, "give 5;" + " ".repeat(293));
        Edges.same("all is so again", x, y);
    }

    public static void main(String[] args) {
        Edges.run(PartEdgesTest.class, "part", 5);
    }
}
