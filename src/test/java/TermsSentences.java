/** The sentences of 'Terms' on what is told and asked, on days, units and leases, and on refusals. */
final class TermsSentences {
    private static final int NONE = Voidrent.NONE;

    private TermsSentences() {
    }

    static void test() {
        Sentence.of("What it is", "A rent roll: units are let for some days, with stepped rents, days free of"
                + " rent, and reviews by an index that only go upwards; service costs of a year are shared by"
                + " area and days, with caps, and what nobody bears is the owner's part; deposits are topped"
                + " up and drawn.", TermsSentences::aRentRoll);
        Sentence.of("What it is", "An object is used for at most 512 calls after it has been made; what later"
                + " calls answer is free.", TermsSentences::usedFor512Calls);
        of("Units, leases, indices and costs are told, in any order and for any time, also later ones for"
                + " earlier days; rents, shares, balances and deposits are asked, and told by all that is"
                + " known then.", TermsSentences::toldInAnyOrder);
        of("Calls that ask change nothing.", TermsSentences::askingChangesNothing);
        of("Days are numbered from 0 to 7199; month m has the days 30 * m to 30 * m + 29, year y the days"
                + " 360 * y to 360 * y + 359.", TermsSentences::daysOfMonthsAndYears);
        of("There are 6 units, 0 to 5, each with an area, 0 at first, and at most 24 leases, numbered from"
                + " 0 on.", TermsSentences::sixUnitsAnd24Leases);
        of("A lease is of a unit, from a day to another one, which does not belong to it any more; no two"
                + " leases of a unit have a day in common.", TermsSentences::noDayInCommon);
        of("A call that throws an exception changes nothing.", TermsSentences::throwingChangesNothing);
        of("If several apply, the one that the throws clause names first is thrown.",
                TermsSentences::theFirstNamedIsThrown);
        of("The constants: `NONE = -1`: There is none.", TermsSentences::noneIsMinusOne);
    }

    private static void of(String words, Sentence.Test test) {
        Sentence.of("Terms", words, test);
    }

    private static void due(String what, Object want, Object got) {
        Check.due(what, want, got);
    }

    private static void aRentRoll() {
        Voidrent x = Scene.SOME.make();
        x.setIndex(4, 10);
        due("a review goes only upwards", 888, x.rentOn(0, 190));
        x.setIndex(2, 10);
        x.setIndex(6, 10);
        due("no review lowers the agreed rent", 800, x.rentOn(0, 190));
        x.setService(0, 0, 0);
        due("what nobody bears", 7200 - 800, x.owners(0));
        due("drawn", 1500, x.draw(0, 500));
        due("topped up", 100, x.topUp(0, 190, 2));
    }

    private static void usedFor512Calls() {
        Voidrent x = new Voidrent();
        x.setIndex(0, 10);
        x.let(0, 0, 7200, 99999);
        x.setTerms(0, 0, 30);
        for (int call = 4; call <= 510; call++) {
            due("call " + call, 99999L + 239L * 999990L, x.bills(0, 0, 239));
        }
        due("call 511, which tells", 1, x.let(1, 0, 1, 7));
        due("call 512, which asks", 2, x.leases());
    }

    private static void toldInAnyOrder() {
        Voidrent x = new Voidrent();
        x.setCost(1, 3600);
        x.let(0, 7100, 7200, 90);
        due("a later lease of earlier days", 1, x.let(0, 360, 720, 60));
        due("asked before there is an area", 0, x.part(1, 1));
        x.setArea(0, 1);
        due("and behind", 3600, x.part(1, 1));
        x.setArea(5, 2);
        due("and behind another one", 1200, x.part(1, 1));
        x.setCost(1, 7200);
        due("a cost that is told later", 2400, x.part(1, 1));
        x.step(1, 500, 80);
        x.step(1, 400, 70);
        due("a later step of an earlier day", 70, x.rentOn(1, 499));
        due("an earlier step of a later day", 80, x.rentOn(1, 500));
        due("topped up by what is known", 160, x.topUp(1, 600, 2));
        x.setTerms(1, 0, 30);
        x.setIndex(13, 150);
        due("an index that is told later", 120, x.rentOn(1, 600));
        due("what is held stays", 160, x.held(1));
        due("topped up by what is known then", 80, x.topUp(1, 600, 2));
        x.setIndex(12, 300);
        due("a first index that is told later", 80, x.rentOn(1, 600));
        due("what is held stays still", 240, x.held(1));
        x.end(1, 540);
        due("an end that is told later", 1200, x.part(1, 1));
        x.setService(1, 100, 10);
        due("a cap and a prepayment that are told later", 50 - 60, x.balance(1, 1));
    }

    private static void askingChangesNothing() {
        for (Scene scene : new Scene[] {Scene.EMPTY, Scene.SOME, Scene.FULL}) {
            for (int number : new int[] {-1, 0, 2, 5, 6, 23, 24}) {
                askTwice(scene, number, 100);
                askTwice(scene, number, 0);
                askTwice(scene, number, 239);
                askTwice(scene, number, 7199);
                askTwice(scene, number, -1);
            }
        }
    }

    /** All of the calls that ask, about a unit or a lease, and a day, month or year. */
    private static void askTwice(Scene scene, int number, int time) {
        String what = "(" + number + ", " + time + ")";
        askTwice(scene, "leases()", Voidrent::leases);
        askTwice(scene, "held" + what, x -> x.held(number));
        askTwice(scene, "leaseOn" + what, x -> x.leaseOn(number, time));
        askTwice(scene, "rentOn" + what, x -> x.rentOn(number, time));
        askTwice(scene, "bill" + what, x -> x.bill(number, time));
        askTwice(scene, "billByDays" + what, x -> x.billByDays(number, time));
        askTwice(scene, "bills" + what, x -> x.bills(number, 0, time));
        askTwice(scene, "nextChange" + what, x -> x.nextChange(number, time));
        askTwice(scene, "voids" + what, x -> x.voids(number, time / 12));
        askTwice(scene, "part" + what, x -> x.part(number, time / 12));
        askTwice(scene, "owners" + what, x -> x.owners(time / 12));
        askTwice(scene, "balance" + what, x -> x.balance(number, time / 12));
        askTwice(scene, "share" + what, x -> x.share(number));
    }

    private static void askTwice(Scene scene, String what, Scene.Act act) {
        Voidrent x = scene.make();
        Object first = Check.answer(() -> act.on(x));
        due(what + " the second time", first, Check.answer(() -> act.on(x)));
        scene.answers(what, first, act);
    }

    private static void daysOfMonthsAndYears() {
        for (int month : new int[] {0, 1, 11, 12, 119, 238, 239}) {
            daysOfMonth(month);
        }
        for (int year : new int[] {0, 1, 10, 18, 19}) {
            daysOfYear(year);
        }
        due("day 0", 0, Scene.FULL.make().leaseOn(0, 0));
        due("day 7199", 2, Scene.SOME.make().leaseOn(1, 7199));
        Scene.SOME.refuses("day -1", Check.PLACE, x -> x.rentOn(0, -1));
        Scene.SOME.refuses("day 7200", Check.PLACE, x -> x.rentOn(2, 7200));
        indicesOfMonths();
    }

    private static void daysOfMonth(int month) {
        Voidrent x = new Voidrent();
        x.let(0, 30 * month, 30 * month + 1, 900);
        x.let(1, 30 * month + 29, 30 * month + 30, 900);
        due("the first day of month " + month, 30, x.bill(0, month));
        due("the last day of month " + month, 30, x.bill(1, month));
        due("the same by days", 30, x.billByDays(0, month));
        due("the same by days", 30, x.billByDays(1, month));
        due("all other months", 30L, x.bills(0, 0, 239));
        due("all other months", 30L, x.bills(1, 0, 239));
    }

    private static void daysOfYear(int year) {
        Voidrent x = new Voidrent();
        x.setArea(0, 1);
        x.setArea(1, 1);
        x.setCost(year, 720);
        x.let(0, 360 * year, 360 * year + 1, 900);
        x.let(1, 360 * year + 359, 360 * year + 360, 900);
        x.setService(1, NONE, 30);
        for (int other = 0; other < 20; other++) {
            int let = other == year ? 1 : 0;
            due("the first day of " + year + " in " + other, 360 - let, x.voids(0, other));
            due("the last day of " + year + " in " + other, 360 - let, x.voids(1, other));
            due("the first day's part", let, x.part(0, other));
            due("the last day's part", let, x.part(1, other));
            due("the last day's part less what is prepaid", 0, x.balance(1, other));
        }
    }

    /** The months of the first day of a lease and of a review day, at their edges. */
    private static void indicesOfMonths() {
        Voidrent x = new Voidrent();
        x.setIndex(1, 200);
        x.setIndex(2, 400);
        x.let(0, 0, 7200, 10);
        x.let(1, 29, 7200, 10);
        x.let(2, 30, 7200, 10);
        x.setTerms(0, 0, 59);
        x.setTerms(1, 0, 31);
        x.setTerms(2, 0, 30);
        due("a review on day 59, of month 1", 20, x.rentOn(0, 59));
        due("a review on day 60, of month 2", 40, x.rentOn(1, 60));
        due("from day 30, of month 1, reviewed on day 60", 20, x.rentOn(2, 60));
        x.setTerms(0, 0, 60);
        x.setTerms(1, 0, 30);
        due("a review on day 60, of month 2", 40, x.rentOn(0, 60));
        due("a review on day 59, of month 1", 20, x.rentOn(1, 59));
        x.setIndex(239, 900);
        x.let(3, 7139, 7200, 10);
        x.setTerms(3, 0, 30);
        due("the day before month 239", 10, x.rentOn(3, 7169));
        x.setTerms(3, 0, 31);
        due("a review on the first day of month 239", 90, x.rentOn(3, 7170));
        x.setTerms(3, 0, 60);
        due("a review on its last day", 90, x.rentOn(3, 7199));
    }

    private static void sixUnitsAnd24Leases() {
        Voidrent x = new Voidrent();
        for (int unit = 0; unit < 6; unit++) {
            due("the area of " + unit, 0, x.setArea(unit, 1));
        }
        for (int lease = 0; lease < 24; lease++) {
            due("the number of a lease", lease, x.let(lease / 4, lease, lease + 1, 7));
        }
        for (int unit = 0; unit < 6; unit++) {
            int u = unit;
            due("each has the same share", 1.0 / 6, x.share(unit));
            Check.throwing("a 25th lease", Check.STATE, () -> x.let(u, 5000, 5001, 7));
        }
        Check.throwing("a seventh unit", Check.PLACE, () -> x.setArea(6, 1));
        Check.throwing("a unit below 0", Check.PLACE, () -> x.setArea(-1, 1));
        Check.throwing("a lease below 0", Check.PLACE, () -> x.held(-1));
        due("the first lease", 0, x.held(0));
        due("the last lease", 0, x.held(23));
        Check.throwing("a lease behind it", Check.PLACE, () -> x.held(24));
        due("24 are all", 24, x.leases());
    }

    private static void noDayInCommon() {
        for (int from = 7; from <= 22; from++) {
            for (int to = from + 1; to <= 24; to++) {
                letBeside(from, to);
            }
        }
        Voidrent x = new Voidrent();
        x.let(0, 0, 7200, 7);
        due("another unit on the same days", 1, x.let(1, 0, 7200, 7));
        Check.throwing("the same unit on its first day", Check.STATE, () -> x.let(0, 0, 1, 7));
        Check.throwing("the same unit on its last day", Check.STATE, () -> x.let(0, 7199, 7200, 7));
    }

    /** Beside a lease from day 10 to day 20, and one from day 21 to 22. */
    private static void letBeside(int from, int to) {
        Voidrent x = new Voidrent();
        x.let(4, 10, 20, 7);
        x.let(4, 21, 22, 7);
        boolean taken = from < 20 && to > 10 || from <= 21 && to > 21;
        due("from " + from + " to " + to, taken ? Check.thrown(Check.STATE) : (Object) 2,
                Check.answer(() -> x.let(4, from, to, 9)));
        for (int day = 5; day < 26; day++) {
            int first = day >= 10 && day < 20 ? 0 : day == 21 ? 1 : NONE;
            int lease = !taken && day >= from && day < to ? 2 : first;
            due("the lease on day " + day, lease, x.leaseOn(4, day));
        }
    }

    private static void throwingChangesNothing() {
        Scene.EMPTY.refuses("all refused calls", Check.STATE, TermsSentences::allRefused);
        Scene.SOME.refuses("all refused calls", Check.STATE, TermsSentences::allRefused);
        Scene.FULL.refuses("all refused calls", Check.STATE, TermsSentences::allRefused);
    }

    /** Calls of each kind, each with one fault; the last one's exception is thrown on. */
    private static Object allRefused(Voidrent x) {
        int last = Math.max(0, x.leases() - 1);
        Scene.Act[] refused = {
            y -> y.setArea(6, 5), y -> y.setArea(0, 1000), y -> y.setIndex(240, 500), y -> y.setIndex(0, 9),
            y -> y.setCost(20, 5), y -> y.setCost(0, 1000000), y -> y.let(6, 500, 600, 7),
            y -> y.let(5, 600, 600, 7), y -> y.let(5, 600, 7201, 7), y -> y.let(5, -1, 600, 7),
            y -> y.let(5, 500, 600, 0), y -> y.end(24, 11), y -> y.end(0, 0), y -> y.end(last, 7200),
            y -> y.step(24, 11, 7), y -> y.step(0, 0, 7), y -> y.step(last, 11, 0),
            y -> AgreedSentences.terms(y, 24, 5, 30), y -> AgreedSentences.terms(y, 0, 5, 29),
            y -> AgreedSentences.terms(y, last, 721, 30), y -> AgreedSentences.service(y, 24, 5, 5),
            y -> AgreedSentences.service(y, 0, -2, 5), y -> AgreedSentences.service(y, last, 5, 10000),
            y -> y.topUp(24, 11, 6), y -> y.topUp(0, 7199, 6), y -> y.topUp(last, 10, 7),
            y -> y.draw(24, 1), y -> y.draw(0, 0), y -> y.draw(0, 999999), y -> y.draw(last, 1000000),
        };
        for (Scene.Act act : refused) {
            boolean thrown = Check.answer(() -> act.on(x)).toString().startsWith("throws");
            due("each of them is refused", true, thrown);
        }
        throw new IllegalStateException();
    }

    private static void theFirstNamedIsThrown() {
        placeBeforeAll();
        argumentBeforeState();
    }

    private static void placeBeforeAll() {
        Scene.SOME.refuses("setArea: unit, area", Check.PLACE, x -> x.setArea(6, 1000));
        Scene.SOME.refuses("setIndex: month, index", Check.PLACE, x -> x.setIndex(240, 9));
        Scene.SOME.refuses("setCost: year, cost", Check.PLACE, x -> x.setCost(20, -1));
        Scene.SOME.refuses("let: unit, from", Check.PLACE, x -> x.let(6, -1, 600, 7));
        Scene.SOME.refuses("let: unit, to", Check.PLACE, x -> x.let(6, 500, 500, 7));
        Scene.SOME.refuses("let: unit, rent", Check.PLACE, x -> x.let(6, 500, 600, 0));
        Scene.FULL.refuses("let: unit, 24 leases", Check.PLACE, x -> x.let(6, 500, 600, 7));
        Scene.FULL.refuses("let: unit, rent, 24 leases", Check.PLACE, x -> x.let(-1, 0, 1, 0));
        Scene.SOME.refuses("end: lease, to", Check.PLACE, x -> x.end(3, -1));
        Scene.SOME.refuses("step: lease, day", Check.PLACE, x -> x.step(3, -1, 7));
        Scene.SOME.refuses("step: lease, rent", Check.PLACE, x -> x.step(3, 11, 0));
        Scene.SOME.refuses("setTerms: lease, free", Check.PLACE,
                x -> AgreedSentences.terms(x, 3, 721, 30));
        Scene.SOME.refuses("setTerms: lease, every", Check.PLACE,
                x -> AgreedSentences.terms(x, 3, 5, 29));
        Scene.SOME.refuses("setService: lease, cap", Check.PLACE,
                x -> AgreedSentences.service(x, 3, -2, 5));
        Scene.SOME.refuses("setService: lease, prepaid", Check.PLACE,
                x -> AgreedSentences.service(x, 3, 5, 10000));
        Scene.SOME.refuses("topUp: lease, day", Check.PLACE, x -> x.topUp(3, -1, 6));
        Scene.SOME.refuses("topUp: lease, rents", Check.PLACE, x -> x.topUp(3, 60, 7));
        Scene.SOME.refuses("draw: lease, amount", Check.PLACE, x -> x.draw(3, 0));
        Scene.SOME.refuses("bills: lease, order", Check.PLACE, x -> x.bills(3, 5, 4));
        Scene.SOME.refuses("bills: from, order", Check.PLACE, x -> x.bills(0, 240, 4));
        Scene.SOME.refuses("bills: to, order", Check.PLACE, x -> x.bills(0, 4, -1));
    }

    private static void argumentBeforeState() {
        Scene.FULL.refuses("let: from, 24 leases", Check.ARGUMENT, x -> x.let(0, -1, 600, 7));
        Scene.FULL.refuses("let: to, 24 leases", Check.ARGUMENT, x -> x.let(0, 500, 7201, 7));
        Scene.FULL.refuses("let: rent, 24 leases", Check.ARGUMENT, x -> x.let(0, 500, 600, 100000));
        Scene.FULL.refuses("let: rent, 24 leases, its days", Check.ARGUMENT, x -> x.let(0, 0, 1, 0));
        Scene.SOME.refuses("let: from, its days", Check.ARGUMENT, x -> x.let(0, -1, 600, 7));
        Scene.SOME.refuses("let: to, its days", Check.ARGUMENT, x -> x.let(0, 100, 7201, 7));
        Scene.SOME.refuses("let: no day, in its days", Check.ARGUMENT, x -> x.let(0, 100, 100, 7));
        Scene.SOME.refuses("let: rent, its days", Check.ARGUMENT, x -> x.let(0, 100, 110, 0));
        Scene.FULL.refuses("let: 24 leases, its days", Check.STATE, x -> x.let(0, 0, 1, 7));
        Scene.FULL.refuses("step: day, six steps", Check.ARGUMENT, x -> x.step(23, 230, 7));
        Scene.FULL.refuses("step: a day behind, six steps", Check.ARGUMENT, x -> x.step(23, 240, 7));
        Scene.FULL.refuses("step: rent, six steps", Check.ARGUMENT, x -> x.step(23, 239, 0));
        Scene.FULL.refuses("step: six steps", Check.STATE, x -> x.step(23, 239, 7));
        Scene.FULL.refuses("draw: amount, less is held", Check.ARGUMENT, x -> x.draw(23, 1000000));
        Scene.FULL.refuses("draw: amount, nothing is held", Check.ARGUMENT, x -> x.draw(1, 0));
        Scene.FULL.refuses("draw: less is held", Check.STATE, x -> x.draw(23, 999999));
    }

    private static void noneIsMinusOne() {
        due("NONE", -1, Voidrent.NONE);
        due("no lease on a day", -1, new Voidrent().leaseOn(0, 0));
        Voidrent x = new Voidrent();
        x.setArea(0, 1);
        x.setCost(0, 500);
        x.let(0, 0, 7200, 7);
        due("no change", -1, x.nextChange(0, 0));
        x.setService(0, 0, 0);
        x.setService(0, -1, 0);
        due("no cap", 500, x.part(0, 0));
    }
}
