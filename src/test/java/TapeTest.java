/** Promises 2 to 5: feed, end, text, fault. */
public final class TapeTest {
    private static final Check CHECK = new Check("TapeTest");

    public static void main(String[] args) {
        feed();
        end();
        tellsKeys();
        tellsSettings();
        tellsAllOrNone();
        tokens();
        faultsOfKind1();
        faultsOfKind2();
        faultsOfKind3();
        firstFaultByPlace();
        CHECK.finish();
    }

    private static void feed() {
        GuessedPlace p = new GuessedPlace();
        for (int i = 1; i <= 30; i++) {
            CHECK.due("feed " + i, p.feed(0x20202020, 0x0a0a0a0a, 0x20202020, 0x20202020, 0x20202020), 20 * i);
        }
        CHECK.due("feed beyond 600", p.feed(0, 0, 0, 0, 0), -1);
        CHECK.due("end(600)", p.end(600), true);
        CHECK.due("text of 600 blanks", p.text(), 0);
        CHECK.due("the tape is empty behind a text", p.end(1), false);
        p.feed(0x6b657920, 0x372031, 0x3b000000, 0, 0);
        p.end(9);
        CHECK.due("a byte 0 is no token", p.text(), -1);
        CHECK.due("its place", p.fault(1), 4);
        CHECK.due("the tape is empty behind a fault", p.end(1), false);
        p.feed(0x6b657920, 0x37203132, 0x3b0a0a20, -1, -1);
        p.end(12);
        CHECK.due("highest byte first", p.text(), 1);
        CHECK.due("count told", p.count(7), 12);
    }

    private static void end() {
        GuessedPlace p = new GuessedPlace();
        CHECK.due("end(0) of none", p.end(0), true);
        CHECK.due("end(1) of none", p.end(1), false);
        Check.feed(p, "key 5;");
        CHECK.due("end below 0", p.end(-1), false);
        CHECK.due("end too far", p.end(7), false);
        CHECK.due("end at all", p.end(6), true);
        CHECK.due("feed behind the end", p.feed(0x6b657920, 0x363b2020, 0x20202020, 0x20202020, 0x20202020), 26);
        CHECK.due("end", p.end(12), true);
        CHECK.due("both are told", p.text(), 2);
        for (int i = 0; i < 29; i++) {
            p.feed(0, 0, 0, 0, 0);
        }
        p.end(580);
        CHECK.due("600 fit", p.feed(0, 0, 0, 0, 0), 600);
        p.end(581);
        CHECK.due("601 do not", p.feed(0, 0, 0, 0, 0), -1);
        CHECK.due("nothing came", p.end(582), false);
    }

    private static void tellsKeys() {
        GuessedPlace p = new GuessedPlace();
        CHECK.due("an empty text", p.text(), 0);
        CHECK.due("no fault", p.fault(0), 0);
        CHECK.due("key, run, drop", Check.tell(p, "key 5;key 5 3;run -4 3 2;drop 0;drop 77;key -999999999;"), 4);
        CHECK.due("count added", p.count(5), 4);
        CHECK.due("run begins", p.count(-4), 1);
        CHECK.due("run goes on", p.count(-2), 1);
        CHECK.due("dropped", p.count(0), 0);
        CHECK.due("least", p.key(0), -999999999);
        CHECK.due("run adds one each", Check.tell(p, "run 1 99 4;"), 102);
        CHECK.due("run on a key", p.count(5), 5);
        CHECK.due("told is built", p.look(1), 102);
        CHECK.due("cost of both", p.look(5), 106);
        CHECK.due("drop drops all counts", Check.tell(p, "drop 5;key 5;"), 102);
        CHECK.due("begun anew", p.count(5), 1);
        CHECK.due("an empty text builds", p.text(), 102);
        CHECK.due("and costs", p.look(5), 310);
        p.insert(6);
        CHECK.due("waits", p.look(2), 1);
        CHECK.due("an act", p.look(6), 1);
        CHECK.due("a text with a fault", Check.tell(p, "key;"), -1);
        CHECK.due("forgets nothing", p.look(6), 1);
        CHECK.due("builds nothing", p.look(2), 1);
        CHECK.due("a text", Check.tell(p, "drop 6;"), 102);
        CHECK.due("forgets acts", p.look(6), 0);
        CHECK.due("empties the buffer", p.look(2), 0);
    }

    private static void tellsSettings() {
        GuessedPlace p = new GuessedPlace();
        CHECK.due("settings", Check.tell(p, "run 0 9 1;slack 20;upper 0;room 50;slack 7;"), 9);
        CHECK.due("the last slack", p.look(20), 7);
        CHECK.due("upper", p.look(21), 0);
        CHECK.due("room", p.look(22), 50);
        CHECK.due("built once, when all was told", p.look(5), 9);
        Check.tell(p, "slack 1;room 51;");
        CHECK.due("none of a text with a fault", p.look(20), 7);
    }

    private static void tellsAllOrNone() {
        GuessedPlace p = new GuessedPlace();
        Check.tell(p, "key 1;key 2 9;");
        CHECK.fault(p, "drop 1;key 3;key 2 5;x", 1, 21);
        CHECK.due("keys as they were", p.look(0), 2);
        CHECK.due("dropped no key", p.count(1), 1);
        CHECK.due("added no count", p.count(2), 9);
        CHECK.due("cost as it was", p.look(5), 2);
        CHECK.due("told rightly", Check.tell(p, "drop 1;"), 1);
        CHECK.due("the latest text has no fault", p.fault(0), 0);
        CHECK.due("nor a place", p.fault(1), -1);
        CHECK.due("fault(2)", p.fault(2), -1);
        CHECK.due("fault(-1)", p.fault(-1), -1);
    }

    private static void tokens() {
        GuessedPlace p = new GuessedPlace();
        CHECK.due("tokens need no blanks", Check.tell(p, "key1key".substring(0, 4) + ";key-5;key 000000007 02;"), 3);
        CHECK.due("zeros ahead", p.count(7), 2);
        CHECK.due("minus right ahead", p.count(-5), 1);
        CHECK.due("blanks between", Check.tell(p, "\n key\n\n 8 \n 2\n ; "), 4);
        CHECK.due("-0 is 0", Check.tell(p, "key -0;"), 5);
        CHECK.due("0 is there", p.count(0), 1);
        CHECK.fault(p, "key 5-3;", 2, 5);
        CHECK.fault(p, "key 5key 6;", 1, 5);
        CHECK.fault(p, "key - 5;", 1, 4);
        CHECK.fault(p, "key --5;", 1, 4);
        CHECK.fault(p, "key 5\t;", 1, 5);
        CHECK.fault(p, "key\r5;", 1, 3);
        CHECK.fault(p, "key 1234567890;", 1, 4);
        CHECK.fault(p, "key -1234567890;", 1, 4);
        CHECK.fault(p, "key 0000000001;", 1, 4);
        CHECK.fault(p, "keys 5;", 1, 0);
        CHECK.fault(p, "ke y 5;", 1, 0);
        CHECK.fault(p, "Key 5;", 1, 0);
        CHECK.fault(p, "keyX 5;", 1, 0);
        CHECK.fault(p, "key\u00e95;", 1, 3);
        CHECK.fault(p, "key 5,", 1, 5);
        for (char letter : "azAZ".toCharArray()) {
            CHECK.fault(p, "key" + letter + " 5;", 1, 0);
        }
        for (char sign : "@[`{/:".toCharArray()) {
            CHECK.fault(p, "key" + sign + "5;", 1, 3);
            CHECK.fault(p, "key 5" + sign + ";", 1, 5);
        }
        CHECK.fault(p, ";".repeat(600), 1, 0);
        Check.feed(p, "keyy");
        p.end(3);
        CHECK.due("a word ends with the text", p.text() == -1 && p.fault(1) == 3, true);
        Check.feed(p, "key 5;key 66;");
        p.end(11);
        CHECK.due("a number ends with the text", p.text() == -1 && p.fault(1) == 11, true);
    }

    private static void faultsOfKind1() {
        GuessedPlace p = new GuessedPlace();
        CHECK.fault(p, ";", 1, 0);
        CHECK.fault(p, "5;", 1, 0);
        CHECK.fault(p, "key 5;;", 1, 6);
        CHECK.fault(p, "key;", 1, 3);
        CHECK.fault(p, "key", 1, 3);
        CHECK.fault(p, "key  \n", 1, 6);
        CHECK.fault(p, "key 5", 1, 5);
        CHECK.fault(p, "key 5 6", 1, 7);
        CHECK.fault(p, "key 5 6 7;", 1, 8);
        CHECK.fault(p, "key key 5;", 1, 4);
        CHECK.fault(p, "run 5;", 1, 5);
        CHECK.fault(p, "run 5 6;", 1, 7);
        CHECK.fault(p, "run 5 6 7 8;", 1, 10);
        CHECK.fault(p, "drop;", 1, 4);
        CHECK.fault(p, "drop 5 6;", 1, 7);
        CHECK.fault(p, "slack;", 1, 5);
        CHECK.fault(p, "upper key;", 1, 6);
        CHECK.fault(p, "room 3 3;", 1, 7);
    }

    private static void faultsOfKind2() {
        GuessedPlace p = new GuessedPlace();
        CHECK.fault(p, "key 5 0;", 2, 6);
        CHECK.fault(p, "key 5 100;", 2, 6);
        CHECK.fault(p, "key 5 -1;", 2, 6);
        CHECK.fault(p, "run 1 0 5;", 2, 6);
        CHECK.fault(p, "run 1 100 5;", 2, 6);
        CHECK.fault(p, "run 1 5 0;", 2, 8);
        CHECK.fault(p, "run 1 5 100000;", 2, 8);
        CHECK.fault(p, "run 999999998 3 1;", 2, 16);
        CHECK.due("a run to the last key", Check.tell(p, "run 999999997 3 1;"), 3);
        CHECK.due("one at the last key", Check.tell(p, "run 999999999 1 99999;"), 3);
        CHECK.fault(p, "slack 21;", 2, 6);
        CHECK.fault(p, "slack -1;", 2, 6);
        CHECK.fault(p, "upper 21;", 2, 6);
        CHECK.fault(p, "room 51;", 2, 5);
        CHECK.fault(p, "room -1;", 2, 5);
    }

    private static void faultsOfKind3() {
        GuessedPlace p = new GuessedPlace();
        String sixty = "room 4;".repeat(60);
        CHECK.due("60 statements", Check.tell(p, sixty), 0);
        CHECK.fault(p, sixty + " key 5;", 3, 421);
        CHECK.fault(p, sixty + "5", 1, 420);
        CHECK.fault(p, sixty + "room", 3, 420);
        CHECK.due("99 of one", Check.tell(p, "key 5 99;"), 1);
        CHECK.fault(p, "drop 6; key 5;", 3, 8);
        CHECK.fault(p, "run 3 3 1;", 3, 0);
        CHECK.due("a run up to 99", Check.tell(p, "drop 5;key 5 98;run 5 1 1;"), 1);
        CHECK.due("its count", p.count(5), 99);
        CHECK.fault(p, "key 6 50;key 6 50;", 3, 9);
        CHECK.due("as it would be told then", Check.tell(p, "drop 5;key 5 99;"), 1);
        CHECK.due("300 keys", Check.tell(p, "drop 5;run 1 99 1;run 101 99 1;run 201 99 1;run 301 3 1;"), 300);
        CHECK.fault(p, "key 0;", 3, 0);
        CHECK.fault(p, "run 299 3 1;", 3, 0);
        CHECK.due("a run on keys alone", Check.tell(p, "run 1 4 1;"), 300);
        CHECK.due("a key that is one", Check.tell(p, "key 1 97;"), 300);
        CHECK.due("its count", p.count(1), 99);
        CHECK.due("room was made", Check.tell(p, "drop 1;key 0;"), 300);
    }

    private static void firstFaultByPlace() {
        GuessedPlace p = new GuessedPlace();
        Check.tell(p, "key 5 99;");
        CHECK.fault(p, "key 5", 3, 0);
        CHECK.fault(p, "key 5 x", 3, 0);
        CHECK.fault(p, "key 5 1 1;", 3, 0);
        CHECK.fault(p, "key 5 100;", 2, 6);
        CHECK.fault(p, "key 5 1234567890;", 3, 0);
        CHECK.fault(p, "run 5 1 100000;", 2, 8);
        CHECK.fault(p, "run 5 1;", 1, 7);
        CHECK.fault(p, "run 5 1 1", 3, 0);
        CHECK.fault(p, "key 4;key 5;slack 99;", 3, 6);
        CHECK.fault(p, "slack 99;key 5;", 2, 6);
    }
}
