/** Promises 31 to 34: copies, corrections, what stood on a copy, worse days. */
public final class CopiesTest {
    private static final int NO = -1000000;
    private static final Due due = new Due("CopiesTest");

    public static void main(String[] args) {
        copy();
        copiesFull();
        correct();
        correctionsFull();
        stood();
        stoodByOrder();
        stoodEnded();
        latestEdition();
        worse();
        worseWithin99();
        due.end();
    }

    private static FathomRoom room() {
        FathomRoom x = new FathomRoom();
        x.survey(0, 0, 0);
        x.sheet(0, 2, 2, 0);
        Due.rule(x, "tell dulws", 0);
        return x;
    }

    // Promise 31
    private static void copy() {
        FathomRoom x = room();
        due.is("31 no sheet", x.copy(-1), -1);
        due.is("31 no sheet", x.copy(1), -1);
        due.is("31 no edition", x.copy(0), -3);
        x.edition(0);
        due.is("31 first", x.copy(0), 0);
        x.sheet(40, 1, 1, 0);
        due.is("31 no edition of that sheet", x.copy(1), -3);
        due.is("31 second", x.copy(0), 1);
        due.is("43 copies", x.count(7), 2);
    }

    private static void copiesFull() {
        FathomRoom x = room();
        x.sheet(1, 1, 1, 0);
        x.edition(0);
        for (int i = 0; i < 24; i++) {
            due.is("31 copy " + i, x.copy(0), i);
        }
        due.is("31 full", x.copy(0), -4);
        due.is("31 none ahead of full", x.copy(2), -1);
        due.is("31 state ahead of full", x.copy(1), -3);
        due.is("43 copies", x.count(7), 24);
    }

    // Promise 32
    private static void correct() {
        FathomRoom x = room();
        for (int i = 0; i < 3; i++) {
            x.tell(2, 0, 0, 9);
            x.notice();
        }
        x.edition(0);
        x.copy(0);
        x.copy(0);
        due.is("32 no copy", x.correct(-1, 0), -1);
        due.is("32 no copy", x.correct(2, 0), -1);
        due.is("32 no notice", x.correct(0, -1), -1);
        due.is("32 no notice", x.correct(0, 3), -1);
        due.is("32 a notice ahead of the edition", x.correct(0, 1), 1);
        due.is("32 that one", x.correct(0, 1), -3);
        due.is("32 an earlier one", x.correct(0, 0), -3);
        due.is("32 of another copy", x.correct(1, 0), 2);
        due.is("32 a later one", x.correct(0, 2), 3);
        x.pass(1);
        due.is("32 on another day", x.correct(0, 2), -3);
        due.is("32 of another copy", x.correct(1, 2), 4);
        due.is("43 corrections", x.count(8), 4);
    }

    private static void correctionsFull() {
        FathomRoom x = room();
        for (int i = 0; i < 50; i++) {
            x.tell(2, 0, 0, 9);
            x.notice();
        }
        x.edition(0);
        x.copy(0);
        x.copy(0);
        for (int i = 0; i < 50; i++) {
            due.is("32 correction " + i, x.correct(0, i), i + 1);
        }
        for (int i = 0; i < 49; i++) {
            due.is("32 correction " + (50 + i), x.correct(1, i), 51 + i);
        }
        due.is("32 full", x.correct(1, 49), -4);
        due.is("32 none ahead of full", x.correct(1, 50), -1);
        due.is("32 state ahead of full", x.correct(1, 48), -3);
        due.is("43 corrections", x.count(8), 99);
    }

    // Promise 33
    private static void stood() {
        FathomRoom x = room();
        x.sound(0, 0, 0, 20);
        x.pass(2);
        x.edition(0);
        x.pass(3);
        x.copy(0);
        due.is("33 no copy", x.stood(-1, 0, 5), NO);
        due.is("33 no copy", x.stood(1, 0, 5), NO);
        due.is("33 no cell", x.stood(0, -1, 5), NO);
        due.is("33 no cell", x.stood(0, 48, 5), NO);
        due.is("33 no day", x.stood(0, 0, -1), NO);
        due.is("33 no day", x.stood(0, 0, 10000), NO);
        due.is("33 not sold by then", x.stood(0, 0, 4), NO);
        due.is("33 sold that day", x.stood(0, 0, 5), 20);
        due.is("33 the last day", x.stood(0, 0, 9999), 20);
        due.is("33 nothing", x.stood(0, 1, 5), NO);
        x.tell(2, 0, 0, 21);
        x.tell(3, 0, 1, 21);
        x.tell(4, 0, 8, 0);
        x.tell(5, 0, 2, 7);
        x.sound(0, 9, 0, 6);
        x.notice();
        due.is("33 not corrected", x.stood(0, 1, 5), NO);
        x.pass(1);
        x.correct(0, 0);
        due.is("33 not corrected by then", x.stood(0, 1, 5), NO);
        due.is("33 corrected", x.stood(0, 1, 6), 21);
        due.is("33 not less", x.stood(0, 0, 6), 20);
        due.is("33 a light", x.stood(0, 8, 6), NO);
        due.is("33 a depth", x.stood(0, 9, 6), NO);
        due.is("33 not of the sheet", x.stood(0, 2, 6), NO);
        x.tell(5, 0, 0, 3);
        x.tell(2, 0, 0, 4);
        x.notice();
        x.pass(1);
        x.tell(2, 0, 0, 1);
        x.notice();
        x.correct(0, 1);
        due.is("33 the least", x.stood(0, 0, 7), 3);
        due.is("33 as it stood the day before", x.stood(0, 0, 6), 20);
        x.correct(0, 2);
        due.is("33 the latest of a day", x.stood(0, 0, 7), 1);
        x.pass(1);
        x.tell(2, 0, 0, -9);
        x.notice();
        x.pass(1);
        x.correct(0, 3);
        due.is("33 all behind", x.stood(0, 0, 9), -9);
        due.is("33 the day before", x.stood(0, 0, 8), 1);
    }

    private static void stoodByOrder() {
        FathomRoom x = room();
        x.tell(2, 0, 0, 5);
        x.notice();
        x.end(0);
        x.edition(0);
        x.copy(0);
        x.tell(2, 0, 1, 6);
        x.notice();
        x.correct(0, 0);
        due.is("33 up to a notice ahead of the edition", x.stood(0, 0, 0), NO);
        x.correct(0, 1);
        due.is("33 a notice ahead of the edition is not on it", x.stood(0, 0, 0), NO);
        due.is("33 a notice behind it on the same day", x.stood(0, 1, 0), 6);
        x.tell(2, 0, 8, 7);
        x.edition(0);
        x.notice();
        x.copy(0);
        due.is("33 shown in it", x.stood(1, 8, 0), 7);
        x.end(2);
        x.correct(1, 2);
        due.is("33 ended later: it stands still", x.stood(1, 8, 0), 7);
    }

    private static void stoodEnded() {
        FathomRoom x = room();
        x.edition(0);
        x.copy(0);
        x.tell(2, 0, 0, 5);
        x.tell(2, 0, 0, 6);
        x.notice();
        x.end(0);
        x.notice();
        x.correct(0, 0);
        due.is("33 told", x.stood(0, 0, 0), 5);
        x.pass(1);
        x.correct(0, 1);
        due.is("33 told as ended: left out", x.stood(0, 0, 1), 6);
        due.is("33 the day before", x.stood(0, 0, 0), 5);
        x.end(1);
        due.is("33 ended without a notice", x.stood(0, 0, 1), 6);
        x.notice();
        x.correct(0, 2);
        due.is("33 all left out", x.stood(0, 0, 1), NO);
        x.edition(0);
        x.copy(0);
        x.tell(2, 0, 1, 4);
        x.tell(2, 0, 1, 5);
        x.end(2);
        x.notice();
        x.correct(1, 3);
        due.is("33 told and ended by the first notice behind the edition", x.stood(1, 1, 1), 5);
        x.sound(0, 0, 0, 9);
        x.tell(2, 0, 0, 2);
        x.edition(0);
        x.copy(0);
        x.end(5);
        x.notice();
        x.correct(2, 4);
        due.is("33 told and ended by one notice; the edition shows it still", x.stood(2, 0, 1), 2);
    }

    private static void latestEdition() {
        FathomRoom x = room();
        x.sheet(0, 1, 2, 0);
        x.sound(0, 0, 0, 9);
        x.edition(0);
        x.copy(0);
        x.sound(0, 0, 0, 8);
        x.edition(0);
        x.edition(1);
        x.copy(0);
        x.sound(0, 0, 0, 7);
        x.copy(1);
        due.is("31 the edition of the sale", x.stood(0, 0, 0), 9);
        due.is("31 the latest edition", x.stood(1, 0, 0), 8);
        due.is("31 of its sheet", x.stood(2, 0, 0), 8);
        due.is("31 of its sheet", x.stood(2, 8, 0), NO);
    }

    // Promise 34
    private static void worse() {
        FathomRoom x = room();
        x.sound(0, 0, 0, 20);
        x.edition(0);
        x.pass(2);
        x.copy(0);
        x.pass(3);
        x.tell(2, 0, 0, 10);
        x.pass(5);
        due.is("34 no copy", x.worse(-1, 0, 9), -5);
        due.is("34 no copy", x.worse(1, 0, 9), -5);
        due.is("34 no cell", x.worse(0, -1, 9), -5);
        due.is("34 no cell", x.worse(0, 48, 9), -5);
        due.is("34 not sold by then", x.worse(0, 0, 1), -5);
        due.is("34 not sold by then", x.worse(0, 0, -1), -5);
        due.is("34 later than today", x.worse(0, 0, 11), -5);
        due.is("34 on the day of the sale", x.worse(0, 0, 2), 0);
        due.is("34 up to day 4", x.worse(0, 0, 4), 0);
        due.is("34 up to day 5", x.worse(0, 0, 5), 1);
        due.is("34 up to day 10", x.worse(0, 0, 10), 6);
        x.notice();
        x.correct(0, 0);
        due.is("34 corrected today", x.worse(0, 0, 10), 5);
        x.pass(2);
        due.is("34 and from then on", x.worse(0, 0, 12), 5);
        due.is("34 nothing stands there", x.worse(0, 1, 12), 0);
        due.is("34 not of the sheet", x.worse(0, 40, 12), 0);
        x.sound(0, 0, 0, 5);
        due.is("34 known today", x.worse(0, 0, 12), 6);
        x.tell(2, 0, 1, 5);
        x.notice();
        x.correct(0, 1);
        x.pass(1);
        x.end(3);
        x.pass(1);
        due.is("34 nothing known there", x.worse(0, 1, 14), 0);
        x.tell(2, 0, 1, 5);
        x.pass(1);
        due.is("34 as much water", x.worse(0, 1, 15), 0);
        x.tell(2, 0, 1, 4);
        due.is("34 more water", x.worse(0, 1, 15), 1);
    }

    private static void worseWithin99() {
        FathomRoom x = room();
        x.sound(0, 0, 0, 20);
        x.edition(0);
        x.copy(0);
        x.tell(2, 0, 0, 10);
        x.pass(98);
        due.is("34 up to day 98", x.worse(0, 0, 98), 99);
        x.pass(1);
        due.is("34 up to day 99", x.worse(0, 0, 99), 100);
        x.pass(1);
        due.is("34 up to day 100", x.worse(0, 0, 100), 100);
        x.pass(400);
        due.is("34 up to day 500", x.worse(0, 0, 500), 100);
        x.end(1);
        x.pass(60);
        due.is("34 days 461 .. 499 of 461 .. 560", x.worse(0, 0, 560), 39);
    }
}
