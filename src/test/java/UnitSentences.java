/** The sentences of promises 1 to 4: a new object, and what is told of units, months and years. */
final class UnitSentences {
    private static final int NONE = Voidrent.NONE;
    private static final int LEAST = Scene.LEAST;
    private static final int MOST = Scene.MOST;
    private static final int[] NO_AREA = {-1, 1000, LEAST, MOST};
    private static final int[] NO_INDEX = {9, 1000, 0, -1, LEAST, MOST};
    private static final int[] NO_COST = {-1, 1000000, LEAST, MOST};

    private UnitSentences() {
    }

    static void test() {
        Sentence.of(1, "Units without areas, no leases.", UnitSentences::aNewObject);

        Sentence.of(2, "Sets the area of a unit.", UnitSentences::setsTheArea);
        Sentence.of(2, "`unit`: 0 to 5", UnitSentences::areaOfUnits0To5);
        Sentence.of(2, "`area`: 0 to 999", UnitSentences::area0To999);
        Sentence.of(2, "Returns the area that it had.", UnitSentences::returnsTheArea);
        Sentence.of(2, "Throws `IndexOutOfBoundsException` if there is no such unit",
                UnitSentences::areaOfNoSuchUnit);
        Sentence.of(2, "Throws `IllegalArgumentException` if area is out of range",
                UnitSentences::areaOutOfRange);

        Sentence.of(3, "Sets the index of a month.", UnitSentences::setsTheIndex);
        Sentence.of(3, "`month`: 0 to 239", UnitSentences::indexOfMonths0To239);
        Sentence.of(3, "`index`: 10 to 999", UnitSentences::index10To999);
        Sentence.of(3, "Returns the index that it had.", UnitSentences::returnsTheIndex);
        Sentence.of(3, "Throws `IndexOutOfBoundsException` if there is no such month",
                UnitSentences::indexOfNoSuchMonth);
        Sentence.of(3, "Throws `IllegalArgumentException` if index is out of range",
                UnitSentences::indexOutOfRange);

        Sentence.of(4, "Sets the cost of a year.", UnitSentences::setsTheCost);
        Sentence.of(4, "`year`: 0 to 19", UnitSentences::costOfYears0To19);
        Sentence.of(4, "`cost`: 0 to 999999", UnitSentences::cost0To999999);
        Sentence.of(4, "Returns the cost that it had.", UnitSentences::returnsTheCost);
        Sentence.of(4, "Throws `IndexOutOfBoundsException` if there is no such year",
                UnitSentences::costOfNoSuchYear);
        Sentence.of(4, "Throws `IllegalArgumentException` if cost is out of range",
                UnitSentences::costOutOfRange);
    }

    private static void due(String what, Object want, Object got) {
        Check.due(what, want, got);
    }

    private static void aNewObject() {
        Voidrent x = new Voidrent();
        due("leases", 0, x.leases());
        for (int unit = 0; unit < 6; unit++) {
            due("share of " + unit, 0.0, x.share(unit));
            due("nobody on day 0 in " + unit, NONE, x.leaseOn(unit, 0));
            due("nobody on day 7199 in " + unit, NONE, x.leaseOn(unit, 7199));
            for (int year = 0; year < 20; year++) {
                due("void in year " + year + " in " + unit, 360, x.voids(unit, year));
            }
        }
        for (int unit = 0; unit < 6; unit++) {
            due("area of " + unit, 0, x.setArea(unit, 1));
        }
        Scene.EMPTY.refuses("held(0)", Check.PLACE, y -> y.held(0));
        Scene.EMPTY.refuses("held(-1)", Check.PLACE, y -> y.held(-1));
        due("nothing is left from the objects before", 0, new Voidrent().leases());
    }

    private static void setsTheArea() {
        Voidrent x = new Voidrent();
        x.setArea(2, 30);
        due("the only area", 1.0, x.share(2));
        x.setArea(3, 10);
        due("one of two", 0.75, x.share(2));
        x.setArea(2, 0);
        due("a unit without an area again", 0.0, x.share(2));
        due("the other one has it all", 1.0, x.share(3));
        x.setArea(3, 0);
        due("no unit has an area again", 0.0, x.share(3));
    }

    private static void areaOfUnits0To5() {
        Voidrent x = new Voidrent();
        for (int unit = 0; unit < 6; unit++) {
            due("unit " + unit, 0, x.setArea(unit, 20 + unit));
        }
        for (int unit = 0; unit < 6; unit++) {
            due("unit " + unit + " again", 20 + unit, x.setArea(unit, 5));
        }
        Scene.SOME.refuses("setArea(-1, 5)", Check.PLACE, y -> y.setArea(-1, 5));
        Scene.SOME.refuses("setArea(6, 5)", Check.PLACE, y -> y.setArea(6, 5));
    }

    private static void area0To999() {
        Voidrent x = new Voidrent();
        for (int unit = 0; unit < 6; unit += 5) {
            due("least", 0, x.setArea(unit, 0));
            due("one more", 0, x.setArea(unit, 1));
            due("one less than the greatest", 1, x.setArea(unit, 998));
            due("greatest", 998, x.setArea(unit, 999));
            due("kept", 999, x.setArea(unit, 999));
        }
        due("halves", 0.5, x.share(5));
        Scene.SOME.refuses("setArea(0, -1)", Check.ARGUMENT, y -> y.setArea(0, -1));
        Scene.SOME.refuses("setArea(0, 1000)", Check.ARGUMENT, y -> y.setArea(0, 1000));
    }

    private static void returnsTheArea() {
        Voidrent x = new Voidrent();
        due("none at first", 0, x.setArea(1, 999));
        due("the first", 999, x.setArea(1, 7));
        due("the second", 7, x.setArea(1, 7));
        due("the same", 7, x.setArea(1, 0));
        due("none again", 0, x.setArea(1, 3));
        Check.throwing("setArea(1, 1000)", Check.ARGUMENT, () -> x.setArea(1, 1000));
        due("not the refused one", 3, x.setArea(1, 4));
        due("none in another unit", 0, x.setArea(0, 4));
    }

    private static void areaOfNoSuchUnit() {
        Scene.EMPTY.refusesEach("setArea(%d, 0)", Check.PLACE, Scene.NO_UNIT,
                (x, unit) -> x.setArea(unit, 0));
        Scene.SOME.refusesEach("setArea(%d, 5)", Check.PLACE, Scene.NO_UNIT,
                (x, unit) -> x.setArea(unit, 5));
        Scene.SOME.refusesEach("setArea(%d, -1)", Check.PLACE, Scene.NO_UNIT,
                (x, unit) -> x.setArea(unit, -1));
        Scene.SOME.refusesEach("setArea(%d, 1000)", Check.PLACE, Scene.NO_UNIT,
                (x, unit) -> x.setArea(unit, 1000));
    }

    private static void areaOutOfRange() {
        Scene.EMPTY.refusesEach("setArea(0, %d)", Check.ARGUMENT, NO_AREA,
                (x, area) -> x.setArea(0, area));
        Scene.SOME.refusesEach("setArea(0, %d)", Check.ARGUMENT, NO_AREA,
                (x, area) -> x.setArea(0, area));
        Scene.SOME.refusesEach("setArea(5, %d)", Check.ARGUMENT, NO_AREA,
                (x, area) -> x.setArea(5, area));
    }

    private static void setsTheIndex() {
        Voidrent x = new Voidrent();
        x.let(0, 0, 90, 100);
        x.setTerms(0, 0, 30);
        x.setIndex(1, 150);
        due("month 1", 150, x.rentOn(0, 30));
        x.setIndex(1, 140);
        due("month 1, set again", 140, x.rentOn(0, 30));
        x.setIndex(0, 70);
        due("month 0, by which all is divided", 200, x.rentOn(0, 30));
    }

    private static void indexOfMonths0To239() {
        Voidrent x = new Voidrent();
        for (int month = 0; month < 240; month++) {
            due("month " + month, 100, x.setIndex(month, 200 + month));
        }
        for (int month = 0; month < 240; month++) {
            due("month " + month + " again", 200 + month, x.setIndex(month, 100));
        }
        Scene.SOME.refuses("setIndex(-1, 100)", Check.PLACE, y -> y.setIndex(-1, 100));
        Scene.SOME.refuses("setIndex(240, 100)", Check.PLACE, y -> y.setIndex(240, 100));
    }

    private static void index10To999() {
        Voidrent x = new Voidrent();
        for (int month = 0; month < 240; month += 239) {
            due("least", 100, x.setIndex(month, 10));
            due("one more", 10, x.setIndex(month, 11));
            due("one less than the greatest", 11, x.setIndex(month, 998));
            due("greatest", 998, x.setIndex(month, 999));
        }
        x.setIndex(0, 10);
        x.let(0, 0, 7200, 99999);
        x.setTerms(0, 0, 30);
        due("the greatest rent of all", 9989900, x.rentOn(0, 7170));
        due("the day before", 999990, x.rentOn(0, 7169));
        Scene.SOME.refuses("setIndex(0, 9)", Check.ARGUMENT, y -> y.setIndex(0, 9));
        Scene.SOME.refuses("setIndex(0, 1000)", Check.ARGUMENT, y -> y.setIndex(0, 1000));
    }

    private static void returnsTheIndex() {
        Voidrent x = new Voidrent();
        due("100 at first", 100, x.setIndex(7, 10));
        due("the first", 10, x.setIndex(7, 10));
        due("the same", 10, x.setIndex(7, 999));
        due("the greatest", 999, x.setIndex(7, 500));
        Check.throwing("setIndex(7, 9)", Check.ARGUMENT, () -> x.setIndex(7, 9));
        due("not the refused one", 500, x.setIndex(7, 100));
        due("100 in the month before", 100, x.setIndex(6, 100));
        due("100 in the month behind", 100, x.setIndex(8, 100));
    }

    private static void indexOfNoSuchMonth() {
        Scene.EMPTY.refusesEach("setIndex(%d, 10)", Check.PLACE, Scene.NO_MONTH,
                (x, month) -> x.setIndex(month, 10));
        Scene.SOME.refusesEach("setIndex(%d, 999)", Check.PLACE, Scene.NO_MONTH,
                (x, month) -> x.setIndex(month, 999));
        Scene.SOME.refusesEach("setIndex(%d, 9)", Check.PLACE, Scene.NO_MONTH,
                (x, month) -> x.setIndex(month, 9));
        Scene.SOME.refusesEach("setIndex(%d, 1000)", Check.PLACE, Scene.NO_MONTH,
                (x, month) -> x.setIndex(month, 1000));
    }

    private static void indexOutOfRange() {
        Scene.EMPTY.refusesEach("setIndex(0, %d)", Check.ARGUMENT, NO_INDEX,
                (x, index) -> x.setIndex(0, index));
        Scene.SOME.refusesEach("setIndex(0, %d)", Check.ARGUMENT, NO_INDEX,
                (x, index) -> x.setIndex(0, index));
        Scene.SOME.refusesEach("setIndex(239, %d)", Check.ARGUMENT, NO_INDEX,
                (x, index) -> x.setIndex(239, index));
    }

    private static void setsTheCost() {
        Voidrent x = new Voidrent();
        x.setCost(3, 250);
        due("year 3", 250, x.owners(3));
        x.setCost(3, 0);
        due("nothing again", 0, x.owners(3));
        x.setCost(3, 251);
        due("set again", 251, x.owners(3));
        due("the year before", 0, x.owners(2));
        due("the year behind", 0, x.owners(4));
    }

    private static void costOfYears0To19() {
        Voidrent x = new Voidrent();
        for (int year = 0; year < 20; year++) {
            due("year " + year, 0, x.setCost(year, 300 + year));
        }
        for (int year = 0; year < 20; year++) {
            due("the owner's in year " + year, 300 + year, x.owners(year));
            due("year " + year + " again", 300 + year, x.setCost(year, 0));
        }
        Scene.SOME.refuses("setCost(-1, 5)", Check.PLACE, y -> y.setCost(-1, 5));
        Scene.SOME.refuses("setCost(20, 5)", Check.PLACE, y -> y.setCost(20, 5));
    }

    private static void cost0To999999() {
        Voidrent x = new Voidrent();
        for (int year = 0; year < 20; year += 19) {
            due("least", 0, x.setCost(year, 0));
            due("one more", 0, x.setCost(year, 1));
            due("one less than the greatest", 1, x.setCost(year, 999998));
            due("greatest", 999998, x.setCost(year, 999999));
            due("kept", 999999, x.owners(year));
        }
        Scene.SOME.refuses("setCost(0, -1)", Check.ARGUMENT, y -> y.setCost(0, -1));
        Scene.SOME.refuses("setCost(0, 1000000)", Check.ARGUMENT, y -> y.setCost(0, 1000000));
    }

    private static void returnsTheCost() {
        Voidrent x = new Voidrent();
        due("none at first", 0, x.setCost(1, 999999));
        due("the first", 999999, x.setCost(1, 44));
        due("the second", 44, x.setCost(1, 44));
        due("the same", 44, x.setCost(1, 0));
        due("none again", 0, x.setCost(1, 8));
        Check.throwing("setCost(1, -1)", Check.ARGUMENT, () -> x.setCost(1, -1));
        due("not the refused one", 8, x.setCost(1, 9));
    }

    private static void costOfNoSuchYear() {
        Scene.EMPTY.refusesEach("setCost(%d, 0)", Check.PLACE, Scene.NO_YEAR,
                (x, year) -> x.setCost(year, 0));
        Scene.SOME.refusesEach("setCost(%d, 5)", Check.PLACE, Scene.NO_YEAR,
                (x, year) -> x.setCost(year, 5));
        Scene.SOME.refusesEach("setCost(%d, -1)", Check.PLACE, Scene.NO_YEAR,
                (x, year) -> x.setCost(year, -1));
        Scene.SOME.refusesEach("setCost(%d, 1000000)", Check.PLACE, Scene.NO_YEAR,
                (x, year) -> x.setCost(year, 1000000));
    }

    private static void costOutOfRange() {
        Scene.EMPTY.refusesEach("setCost(0, %d)", Check.ARGUMENT, NO_COST,
                (x, cost) -> x.setCost(0, cost));
        Scene.SOME.refusesEach("setCost(0, %d)", Check.ARGUMENT, NO_COST,
                (x, cost) -> x.setCost(0, cost));
        Scene.SOME.refusesEach("setCost(19, %d)", Check.ARGUMENT, NO_COST,
                (x, cost) -> x.setCost(19, cost));
    }
}
