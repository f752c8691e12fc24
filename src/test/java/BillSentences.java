/** The sentences of promises 16 to 18: the bills of months. */
final class BillSentences {
    private static final int LEAST = Scene.LEAST;
    private static final int MOST = Scene.MOST;

    private interface Bill {
        int of(Voidrent x, int lease, int month);
    }

    private BillSentences() {
    }

    static void test() {
        testOfOneMonth(16, "Returns the bill of a month.", Voidrent::bill);
        testOfOneMonth(17, "Returns the same as bill(), by single days.", Voidrent::billByDays);

        Sentence.of(18, "Returns the sum of the bills of a lease from a month to another one, both with.",
                BillSentences::sumOfBillsBothWith);
        Sentence.of(18, "`lease`: its number", BillSentences::billsOfLeasesByNumber);
        Sentence.of(18, "`from`: 0 to 239", BillSentences::billsFrom0To239);
        Sentence.of(18, "`to`: from to 239", BillSentences::billsToFromTo239);
        Sentence.of(18, "Returns the sum.", BillSentences::returnsTheSum);
        Sentence.of(18, "Throws `IndexOutOfBoundsException` if there is no such lease or month",
                BillSentences::billsOfNoSuchLeaseOrMonth);
        Sentence.of(18, "Throws `IllegalArgumentException` if to is less than from",
                BillSentences::billsToLessThanFrom);
    }

    /** The two calls that promise the same. */
    private static void testOfOneMonth(int promise, String first, Bill bill) {
        Sentence.of(promise, first, () -> billOfAMonth(bill));
        Sentence.of(promise, "`lease`: its number", () -> billOfLeasesByNumber(bill));
        Sentence.of(promise, "`month`: 0 to 239", () -> billOfMonths0To239(bill));
        Sentence.of(promise, "Returns the bill.", () -> returnsTheBill(bill));
        Sentence.of(promise, "Throws `IndexOutOfBoundsException` if there is no such lease or month",
                () -> billOfNoSuchLeaseOrMonth(bill));
    }

    private static void due(String what, Object want, Object got) {
        Check.due(what, want, got);
    }

    private static void billOfAMonth(Bill bill) {
        Voidrent x = Scene.SOME.make();
        due("15 of 20 days are free", (5 * 900) / 30, bill.of(x, 0, 0));
        due("a step on the 21st day", (20 * 900 + 10 * 1000) / 30, bill.of(x, 0, 1));
        due("a review on the 11th day", (10 * 1000 + 20 * 1111) / 30, bill.of(x, 0, 2));
        due("a whole month", 1111, bill.of(x, 0, 3));
        due("its last 20 days", (20 * 1066) / 30, bill.of(x, 0, 6));
        due("the next lease's 10 days", (10 * 500) / 30, bill.of(x, 1, 6));
        due("behind it", 0, bill.of(x, 0, 7));
        Scene.SOME.answers("the bill", 1111, y -> bill.of(y, 0, 3));
    }

    private static void billOfLeasesByNumber(Bill bill) {
        for (int lease = 0; lease < 23; lease++) {
            int l = lease;
            Scene.FULL.answers("the bill of " + l, (100 + l) / 3, x -> bill.of(x, l, l / 3));
        }
        int sum = 123 + 201 + 202 + 203 + 204 + 205 + 4 * 206;
        Scene.FULL.answers("the bill of 23", sum / 30, x -> bill.of(x, 23, 7));
        Scene.FULL.refuses("the bill of 24", Check.PLACE, x -> bill.of(x, 24, 7));
        Scene.SOME.refuses("the bill of 3", Check.PLACE, x -> bill.of(x, 3, 237));
        Scene.SOME.refuses("the bill of -1", Check.PLACE, x -> bill.of(x, -1, 1));
    }

    private static void billOfMonths0To239(Bill bill) {
        Voidrent x = new Voidrent();
        x.let(0, 0, 7200, 31);
        x.step(0, 30, 32);
        x.step(0, 7170, 33);
        due("month 0", 31, bill.of(x, 0, 0));
        due("month 1", 32, bill.of(x, 0, 1));
        due("month 238", 32, bill.of(x, 0, 238));
        due("month 239", 33, bill.of(x, 0, 239));
        Scene.SOME.refuses("month -1", Check.PLACE, y -> bill.of(y, 0, -1));
        Scene.SOME.refuses("month 240", Check.PLACE, y -> bill.of(y, 2, 240));
    }

    private static void returnsTheBill(Bill bill) {
        Voidrent x = new Voidrent();
        x.setIndex(0, 10);
        x.setIndex(1, 999);
        x.let(0, 0, 7200, 99999);
        x.setTerms(0, 0, 30);
        due("the greatest of all", 9989900, bill.of(x, 0, 239));
        x.let(1, 0, 29, 1);
        due("29 days of 1, which is nothing", 0, bill.of(x, 1, 0));
        x.let(2, 0, 30, 1);
        due("30 days of 1, which is the least", 1, bill.of(x, 2, 0));
        x.setTerms(2, 30, 0);
        due("all free", 0, bill.of(x, 2, 0));
        due("no day in the month", 0, bill.of(x, 2, 1));
    }

    private static void billOfNoSuchLeaseOrMonth(Bill bill) {
        Scene.refuseNoLease("lease %d, month 2", (x, lease) -> bill.of(x, lease, 2));
        Scene.refuseNoLease("lease %d, month 240", (x, lease) -> bill.of(x, lease, 240));
        for (int lease = 0; lease < 3; lease++) {
            int l = lease;
            Scene.SOME.refusesEach("lease " + l + ", month %d", Check.PLACE, Scene.NO_MONTH,
                    (x, month) -> bill.of(x, l, month));
        }
        Scene.FULL.refusesEach("lease 23, month %d", Check.PLACE, Scene.NO_MONTH,
                (x, month) -> bill.of(x, 23, month));
    }

    private static void sumOfBillsBothWith() {
        Voidrent x = new Voidrent();
        x.let(0, 0, 7200, 1);
        x.step(0, 30, 10);
        x.step(0, 60, 100);
        x.step(0, 90, 1000);
        x.step(0, 7170, 20000);
        due("the first alone", 1L, x.bills(0, 0, 0));
        due("the first two", 11L, x.bills(0, 0, 1));
        due("the two in the middle", 110L, x.bills(0, 1, 2));
        due("the first four", 1111L, x.bills(0, 0, 3));
        due("the last two", 21000L, x.bills(0, 238, 239));
        due("all", 111L + 236 * 1000 + 20000, x.bills(0, 0, 239));
        Voidrent y = new Voidrent();
        y.let(0, 15, 45, 31);
        due("each bill rounded by itself", 30L, y.bills(0, 0, 1));
    }

    private static void billsOfLeasesByNumber() {
        for (int lease = 0; lease < 23; lease++) {
            int l = lease;
            Scene.FULL.answers("bills(" + l + ", 0, 239)", (100L + l) / 3, x -> x.bills(l, 0, 239));
        }
        Scene.FULL.refuses("bills(24, 0, 239)", Check.PLACE, x -> x.bills(24, 0, 239));
        Scene.SOME.refuses("bills(3, 0, 239)", Check.PLACE, x -> x.bills(3, 0, 239));
        Scene.SOME.refuses("bills(-1, 0, 239)", Check.PLACE, x -> x.bills(-1, 0, 239));
    }

    private static void billsFrom0To239() {
        Voidrent x = new Voidrent();
        x.let(0, 0, 7200, 31);
        due("from 0", 240L * 31, x.bills(0, 0, 239));
        due("from 1", 239L * 31, x.bills(0, 1, 239));
        due("from 239", 31L, x.bills(0, 239, 239));
        Scene.SOME.refuses("bills(0, -1, 239)", Check.PLACE, y -> y.bills(0, -1, 239));
        Scene.SOME.refuses("bills(0, 240, 239)", Check.PLACE, y -> y.bills(0, 240, 239));
        Scene.SOME.refuses("bills(0, 240, 240)", Check.PLACE, y -> y.bills(0, 240, 240));
    }

    private static void billsToFromTo239() {
        Voidrent x = new Voidrent();
        x.let(0, 0, 7200, 31);
        due("to 0", 31L, x.bills(0, 0, 0));
        due("to from", 31L, x.bills(0, 120, 120));
        due("to the next one", 62L, x.bills(0, 120, 121));
        due("to 238", 239L * 31, x.bills(0, 0, 238));
        due("to 239", 240L * 31, x.bills(0, 0, 239));
        Scene.SOME.refuses("bills(0, 120, 119)", Check.ARGUMENT, y -> y.bills(0, 120, 119));
        Scene.SOME.refuses("bills(0, 0, 240)", Check.PLACE, y -> y.bills(0, 0, 240));
    }

    private static void returnsTheSum() {
        Voidrent x = new Voidrent();
        x.setIndex(0, 10);
        x.setIndex(1, 999);
        x.let(0, 0, 7200, 99999);
        x.setTerms(0, 0, 30);
        due("the greatest of all, more than an int holds", 99999L + 239L * 9989900L, x.bills(0, 0, 239));
        due("the last that an int holds", 214L * 9989900L, x.bills(0, 1, 214));
        due("the first that it doesn't", 215L * 9989900L, x.bills(0, 1, 215));
        x.let(1, 31, 32, 1);
        due("nothing", 0L, x.bills(1, 0, 239));
        Scene.SOME.answers("bills(0, 7, 239), behind its days", 0L, y -> y.bills(0, 7, 239));
        Scene.SOME.answers("bills(2, 0, 235), before its days", 0L, y -> y.bills(2, 0, 235));
    }

    private static void billsOfNoSuchLeaseOrMonth() {
        Scene.refuseNoLease("bills(%d, 0, 2)", (x, lease) -> x.bills(lease, 0, 2));
        Scene.refuseNoLease("bills(%d, 2, 1)", (x, lease) -> x.bills(lease, 2, 1));
        Scene.refuseNoLease("bills(%d, 0, 240)", (x, lease) -> x.bills(lease, 0, 240));
        Scene.SOME.refusesEach("bills(0, %d, 239)", Check.PLACE, Scene.NO_MONTH,
                (x, month) -> x.bills(0, month, 239));
        Scene.SOME.refusesEach("bills(0, %d, itself)", Check.PLACE, Scene.NO_MONTH,
                (x, month) -> x.bills(0, month, month));
        Scene.SOME.refusesEach("bills(0, %d, 0)", Check.PLACE, Scene.NO_MONTH,
                (x, month) -> x.bills(0, month, 0));
        Scene.SOME.refusesEach("bills(0, 0, %d)", Check.PLACE, Scene.NO_MONTH,
                (x, month) -> x.bills(0, 0, month));
        Scene.SOME.refusesEach("bills(0, 239, %d)", Check.PLACE, Scene.NO_MONTH,
                (x, month) -> x.bills(0, 239, month));
        Scene.SOME.refuses("bills(0, MIN, MAX)", Check.PLACE, x -> x.bills(0, LEAST, MOST));
        Scene.SOME.refuses("bills(0, MAX, MIN)", Check.PLACE, x -> x.bills(0, MOST, LEAST));
    }

    private static void billsToLessThanFrom() {
        Scene.SOME.refuses("bills(0, 1, 0)", Check.ARGUMENT, x -> x.bills(0, 1, 0));
        Scene.SOME.refuses("bills(1, 239, 238)", Check.ARGUMENT, x -> x.bills(1, 239, 238));
        Scene.SOME.refuses("bills(2, 239, 0)", Check.ARGUMENT, x -> x.bills(2, 239, 0));
        Scene.FULL.refuses("bills(23, 8, 7)", Check.ARGUMENT, x -> x.bills(23, 8, 7));
    }
}
