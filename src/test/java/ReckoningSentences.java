/** The sentences of 'Terms' on how rents, bills, parts and prepayments are reckoned. */
final class ReckoningSentences {
    private static final int NONE = Voidrent.NONE;

    private ReckoningSentences() {
    }

    static void test() {
        of("A lease has an agreed rent for a month, which steps can change: from the day of a step on its"
                + " rent is the agreed one.", ReckoningSentences::stepsChangeTheAgreedRent);
        of("The first days of a lease, as many as told, are free.",
                ReckoningSentences::firstDaysAreFree);
        of("The index of each month is 100 at first.", ReckoningSentences::indexIs100AtFirst);
        of("If a lease is reviewed after a number of days each, its review days are its first day and that"
                + " number of days, together, its first day and twice that number, and so on.",
                ReckoningSentences::reviewDays);
        of("The rent of a lease on one of its days is 0 if the day is free; otherwise the greatest one of"
                + " the rent that is agreed on that day, and, for each review day up to that day, the rent"
                + " that is agreed on the day that is asked times the index of the month of the review day,"
                + " divided by the index of the month of the first day of the lease, rounded down.",
                ReckoningSentences::theGreatestRent);
        of("The bill of a month is the sum of the rents of the lease on all of its days in that month,"
                + " divided by 30, rounded down.", ReckoningSentences::sumOfRentsBy30);
        of("The cost of a year is 0 at first.", ReckoningSentences::costIs0AtFirst);
        of("The part of a lease in it is the cost, times the area of the unit, times the days of the lease"
                + " in that year, divided by the sum of the areas of all units, and by 360, rounded down"
                + " once; but if it has a cap, at most the cap times these days, divided by 360, rounded"
                + " down.", ReckoningSentences::partAtMostTheCap);
        of("The owner's part is the cost less the parts of all leases.",
                ReckoningSentences::costLessAllParts);
        of("What is prepaid is the amount for a month, times the days of the lease in the year, divided by"
                + " 30, rounded down.", ReckoningSentences::prepaidByDays);
    }

    private static void of(String words, Sentence.Test test) {
        Sentence.of("Terms", words, test);
    }

    private static void due(String what, Object want, Object got) {
        Check.due(what, want, got);
    }

    private static void stepsChangeTheAgreedRent() {
        Voidrent x = new Voidrent();
        x.let(2, 50, 200, 500);
        due("without steps, its first day", 500, x.rentOn(0, 50));
        due("without steps, its last day", 500, x.rentOn(0, 199));
        int[] days = {120, 51, 199, 80, 81, 150};
        for (int step = 0; step < 6; step++) {
            due("told in any order", step + 1, x.step(0, days[step], 1000 + days[step]));
        }
        int agreed = 500;
        for (int day = 50; day < 200; day++) {
            for (int step : days) {
                agreed = step == day ? 1000 + day : agreed;
            }
            due("day " + day, agreed, x.rentOn(0, day));
        }
        due("down again", 6, x.step(0, 150, 1));
        due("the day before", 1120, x.rentOn(0, 149));
        due("less than at first", 1, x.rentOn(0, 150));
    }

    private static void firstDaysAreFree() {
        for (int free : new int[] {0, 1, 2, 50, 98, 99, 100, 101, 719, 720}) {
            Voidrent x = new Voidrent();
            x.let(0, 100, 200, 50);
            x.setTerms(0, free, 0);
            for (int day = 99; day < 201; day++) {
                boolean paid = day >= 100 + free && day < 200;
                due(free + " free, day " + day, paid ? 50 : 0, x.rentOn(0, day));
            }
        }
        Voidrent y = new Voidrent();
        y.let(0, 7000, 7200, 50);
        y.setTerms(0, 199, 0);
        due("the last day but one", 0, y.rentOn(0, 7198));
        due("the last of all days", 50, y.rentOn(0, 7199));
        y.setTerms(0, 200, 0);
        due("all are free", 0, y.rentOn(0, 7199));
        y.let(1, 7000, 7200, 50);
        due("another lease's aren't", 50, y.rentOn(1, 7000));
        y.end(0, 7100);
        y.setTerms(0, 99, 0);
        due("the last day that an end leaves", 50, y.rentOn(0, 7099));
    }

    private static void indexIs100AtFirst() {
        Voidrent x = new Voidrent();
        for (int month = 0; month < 240; month++) {
            due("month " + month, 100, x.setIndex(month, 100));
        }
        Voidrent y = new Voidrent();
        y.let(0, 0, 7200, 1000);
        y.setTerms(0, 0, 30);
        due("nothing rises at first", 1000, y.rentOn(0, 7199));
        y.setIndex(0, 99);
        due("100 of 99", 1010, y.rentOn(0, 30));
        y.setIndex(0, 101);
        due("100 of 101, which is less", 1000, y.rentOn(0, 30));
        y.setIndex(239, 102);
        due("102 of 101", 1009, y.rentOn(0, 7170));
    }

    private static void reviewDays() {
        for (int every : new int[] {30, 31, 59, 60, 365, 720, 1799, 1800}) {
            reviewDaysAfter(every);
        }
        Voidrent x = new Voidrent();
        x.setIndex(0, 50);
        x.let(0, 0, 60, 10);
        x.setTerms(0, 0, 60);
        due("a review day behind its days", 10, x.rentOn(0, 59));
        due("is none", 60, x.nextChange(0, 0));
        Voidrent y = new Voidrent();
        y.let(0, 0, 7200, 10);
        y.setTerms(0, 0, 30);
        y.setIndex(0, 10);
        due("nothing before the first review day", 10, y.rentOn(0, 29));
        due("it", 100, y.rentOn(0, 30));
        y.setTerms(0, 0, 0);
        due("no reviews, no review days", 10, y.rentOn(0, 7199));
    }

    /** From day 45 on, with an index that rises by 1 a month, so that each review raises the rent. */
    private static void reviewDaysAfter(int every) {
        Voidrent x = new Voidrent();
        for (int month = 0; month < 240; month++) {
            x.setIndex(month, 100 + month);
        }
        x.let(3, 45, 7200, 10100);
        x.setTerms(0, 0, every);
        due("every " + every + ", the day before the first", 10100, x.rentOn(0, 45 + every - 1));
        for (int review = 45 + every; review < 7200 && review <= 45 + 3 * every; review += every) {
            int rent = 100 * (100 + review / 30);
            due("every " + every + ", review day " + review, rent, x.rentOn(0, review));
            due("every " + every + ", up to the next", rent, x.rentOn(0, Math.min(7199, review + every - 1)));
            due("every " + every + ", the change", review, x.nextChange(0, review - 1));
        }
        int last = 45 + (7199 - 45) / every * every;
        due("every " + every + ", the last one", 100 * (100 + last / 30), x.rentOn(0, last));
        due("every " + every + ", the day before it", 100 * (100 + (last - every) / 30), x.rentOn(0, last - 1));
    }

    private static void theGreatestRent() {
        Voidrent x = new Voidrent();
        x.setIndex(0, 90);
        x.setIndex(2, 130);
        x.setIndex(3, 89);
        x.setIndex(4, 150);
        x.let(0, 0, 200, 100);
        x.setTerms(0, 62, 30);
        due("a free day behind a review", 0, x.rentOn(0, 61));
        due("the review of a free day counts: 100 * 130 / 90", 144, x.rentOn(0, 62));
        due("a review with less does not lower it", 144, x.rentOn(0, 90));
        due("a review with more raises it: 100 * 150 / 90", 166, x.rentOn(0, 120));
        x.step(0, 130, 50);
        due("by the rent of the day that is asked: 50 * 150 / 90", 83, x.rentOn(0, 130));
        x.step(0, 140, 1);
        due("rounded down: 1 * 150 / 90", 1, x.rentOn(0, 140));
        x.step(0, 141, 3);
        due("a whole number: 3 * 150 / 90", 5, x.rentOn(0, 141));
        x.setIndex(0, 151);
        due("no review reaches the agreed rent", 3, x.rentOn(0, 141));
        x.setIndex(0, 150);
        due("as much as the agreed rent", 3, x.rentOn(0, 141));
        due("not one of its days", 0, x.rentOn(0, 200));
        x.setIndex(6, 999);
        due("a review of the day that is asked counts: 3 * 999 / 150", 19, x.rentOn(0, 180));
        due("one of a later day doesn't", 3, x.rentOn(0, 179));
        Voidrent y = new Voidrent();
        y.setIndex(0, 21);
        y.setIndex(1, 91);
        y.let(0, 0, 200, 51);
        y.setTerms(0, 0, 30);
        due("51 * 91 / 21, a whole number", 221, y.rentOn(0, 30));
    }

    private static void sumOfRentsBy30() {
        for (int days = 1; days <= 30; days++) {
            Voidrent x = new Voidrent();
            x.let(0, 0, days, 1);
            due(days + " days of 1", days / 30, x.bill(0, 0));
            x.let(1, 60 - days, 90, 7);
            due(days + " days of 7", days * 7 / 30, x.bill(1, 1));
            due(days + " days of 7, by days", days * 7 / 30, x.billByDays(1, 1));
            due("the month behind", 7, x.bill(1, 2));
        }
        Voidrent x = new Voidrent();
        x.let(0, 10, 25, 100);
        x.setTerms(0, 3, 0);
        x.step(0, 20, 333);
        int sum = 7 * 100 + 5 * 333;
        due("free days, and a step", sum / 30, x.bill(0, 0));
        x.end(0, 24);
        due("less a day", (sum - 333) / 30, x.bill(0, 0));
        due("less a day, by days", (sum - 333) / 30, x.billByDays(0, 0));
    }

    private static void costIs0AtFirst() {
        Voidrent x = new Voidrent();
        x.setArea(0, 1);
        x.let(0, 0, 7200, 100);
        for (int year = 0; year < 20; year++) {
            due("the owner's part in " + year, 0, x.owners(year));
            due("the lease's part in " + year, 0, x.part(0, year));
            due("the cost of " + year, 0, x.setCost(year, 0));
        }
    }

    private static void partAtMostTheCap() {
        Voidrent x = new Voidrent();
        x.setArea(0, 7);
        x.setArea(1, 4);
        x.setCost(0, 1000);
        x.let(0, 0, 101, 100);
        due("1000 * 7 * 101 / (11 * 360), rounded once", 178, x.part(0, 0));
        x.setService(0, 639, 0);
        due("a cap just above: 639 * 101 / 360", 178, x.part(0, 0));
        x.setService(0, 638, 0);
        due("a cap that rounds to as much: 638 * 101 / 360", 178, x.part(0, 0));
        x.setService(0, 634, 0);
        due("a cap just below: 634 * 101 / 360", 177, x.part(0, 0));
        x.setService(0, 0, 0);
        due("a cap of 0", 0, x.part(0, 0));
        x.setService(0, 3, 0);
        due("a cap that rounds to 0", 0, x.part(0, 0));
        x.setService(0, 4, 0);
        due("a cap that rounds to 1", 1, x.part(0, 0));
        x.setService(0, NONE, 0);
        due("no cap any more", 178, x.part(0, 0));
        roundedDownOnce();
    }

    /** Where rounding in between, doubles, or the range of int would answer otherwise. */
    private static void roundedDownOnce() {
        part(1079, 1, 3, 359, 358);
        part(240, 6, 7, 7, 4);
        part(50, 22, 30, 216, 22);
        part(34, 25, 30, 216, 17);
        part(124, 18, 30, 300, 62);
        part(2, 998, 999, 360, 1);
        part(999999, 999, 999, 360, 999999);
        part(999999, 998, 999, 359, 996223);
        capped(999999, 360, 999999);
        capped(999999, 359, 997221);
        capped(1476, 230, 943);
        capped(1476, 229, 938);
    }

    /** Of one unit with the area, beside another one that has the rest of all areas. */
    private static void part(int cost, int area, int all, int days, int part) {
        Voidrent x = new Voidrent();
        x.setArea(0, area);
        x.setArea(1, all - area);
        x.setCost(0, cost);
        x.let(0, 360 - days, 720, 100);
        due(cost + " * " + area + " * " + days + " / (" + all + " * 360)", part, x.part(0, 0));
    }

    private static void capped(int cap, int days, int part) {
        Voidrent x = new Voidrent();
        x.setArea(0, 1);
        x.setCost(0, 999999);
        x.let(0, 0, days, 100);
        x.setService(0, cap, 0);
        due("a cap: " + cap + " * " + days + " / 360", part, x.part(0, 0));
    }

    private static void costLessAllParts() {
        Voidrent x = new Voidrent();
        for (int unit = 0; unit < 3; unit++) {
            x.setArea(unit, 1);
        }
        x.setCost(0, 100);
        due("no leases", 100, x.owners(0));
        x.let(0, 0, 360, 7);
        due("one lease", 67, x.owners(0));
        x.let(1, 0, 360, 7);
        due("two leases", 34, x.owners(0));
        x.let(2, 0, 360, 7);
        due("three leases, which round down each", 1, x.owners(0));
        x.setService(1, 10, 0);
        due("what a cap leaves", 24, x.owners(0));
        x.end(0, 180);
        due("what void days leave", 41, x.owners(0));
        x.let(0, 180, 360, 7);
        due("two leases of a unit", 25, x.owners(0));
        x.setCost(1, 50);
        due("a year without leases", 50, x.owners(1));
        x.setArea(3, 999);
        due("a unit that is never let", 100, x.owners(0));
    }

    private static void prepaidByDays() {
        for (int days : new int[] {1, 29, 30, 31, 59, 60, 359, 360}) {
            Voidrent x = new Voidrent();
            x.let(0, 360 - days, 720, 100);
            x.setService(0, NONE, 1);
            due("1 for " + days + " days", -(days / 30), x.balance(0, 0));
            x.setService(0, 5, 9999);
            due("9999 for " + days + " days", -(9999 * days / 30), x.balance(0, 0));
            due("and for the next year", -119988, x.balance(0, 1));
            x.setService(0, NONE, 0);
            due("nothing for " + days + " days", 0, x.balance(0, 0));
        }
        Voidrent x = new Voidrent();
        x.let(0, 0, 246, 100);
        x.setService(0, NONE, 245);
        due("245 * 246 / 30, a whole number", -2009, x.balance(0, 0));
        Voidrent y = new Voidrent();
        y.let(0, 0, 720, 100);
        y.setTerms(0, 360, 0);
        y.setService(0, NONE, 30);
        due("free days count", -360, y.balance(0, 0));
        y.end(0, 1);
        due("days behind an end don't", -1, y.balance(0, 0));
        due("nor in the next year", 0, y.balance(0, 1));
    }
}
